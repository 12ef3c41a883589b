section
-- ===== PART A: goes FIRST, ahead of the names: the tables' words, and 'selects' of the private methods out of them =====
/-- a private method of a class that the tables say can be made, by its rows of tables_1 -/
def lw_okq (q : MethodName × Nat) : Prop := (q.1.cls ≠ "java/lang/invoke/MethodHandle" ∧ q.1.cls ≠ "java/lang/invoke/VarHandle") ∧ Cond.instantiable q.1.cls q.2 ∈ tables_1 ∧ Cond.privateMethod q.1 ∈ tables_1 ∧ Cond.instanceMethod q.1 ∈ tables_1
theorem lw_p0 : lw_okq (⟨"LateRows$Reader", "splitTape", "()V"⟩, 8) := ⟨⟨by decide +kernel, by decide +kernel⟩, List.mem_of_getElem? (i := 26) (by decide +kernel), List.mem_of_getElem? (i := 296) (by decide +kernel), List.mem_of_getElem? (i := 297) (by decide +kernel)⟩
theorem lw_p1 : lw_okq (⟨"LateRows$Reader", "meaningOf", "(III)I"⟩, 8) := ⟨⟨by decide +kernel, by decide +kernel⟩, List.mem_of_getElem? (i := 26) (by decide +kernel), List.mem_of_getElem? (i := 390) (by decide +kernel), List.mem_of_getElem? (i := 391) (by decide +kernel)⟩
theorem lw_p2 : lw_okq (⟨"LateRows$Reader", "kindOfWord", "(II)I"⟩, 8) := ⟨⟨by decide +kernel, by decide +kernel⟩, List.mem_of_getElem? (i := 26) (by decide +kernel), List.mem_of_getElem? (i := 394) (by decide +kernel), List.mem_of_getElem? (i := 395) (by decide +kernel)⟩
theorem lw_p3 : lw_okq (⟨"LateRows$Reader", "isWord", "(Ljava/lang/String;II)Z"⟩, 8) := ⟨⟨by decide +kernel, by decide +kernel⟩, List.mem_of_getElem? (i := 26) (by decide +kernel), List.mem_of_getElem? (i := 415) (by decide +kernel), List.mem_of_getElem? (i := 416) (by decide +kernel)⟩
theorem lw_p4 : lw_okq (⟨"LateRows$Reader", "readPart", "(I)V"⟩, 8) := ⟨⟨by decide +kernel, by decide +kernel⟩, List.mem_of_getElem? (i := 26) (by decide +kernel), List.mem_of_getElem? (i := 440) (by decide +kernel), List.mem_of_getElem? (i := 441) (by decide +kernel)⟩
theorem lw_p5 : lw_okq (⟨"LateRows$Reader", "miss", "()V"⟩, 8) := ⟨⟨by decide +kernel, by decide +kernel⟩, List.mem_of_getElem? (i := 26) (by decide +kernel), List.mem_of_getElem? (i := 449) (by decide +kernel), List.mem_of_getElem? (i := 450) (by decide +kernel)⟩
theorem lw_p6 : lw_okq (⟨"LateRows$Reader", "readField", "(IC)V"⟩, 8) := ⟨⟨by decide +kernel, by decide +kernel⟩, List.mem_of_getElem? (i := 26) (by decide +kernel), List.mem_of_getElem? (i := 464) (by decide +kernel), List.mem_of_getElem? (i := 465) (by decide +kernel)⟩
theorem lw_p7 : lw_okq (⟨"LateRows$Reader", "readSign", "(Ljava/lang/String;)I"⟩, 8) := ⟨⟨by decide +kernel, by decide +kernel⟩, List.mem_of_getElem? (i := 26) (by decide +kernel), List.mem_of_getElem? (i := 469) (by decide +kernel), List.mem_of_getElem? (i := 470) (by decide +kernel)⟩
theorem lw_p8 : lw_okq (⟨"LateRows$Reader", "readNum", "()I"⟩, 8) := ⟨⟨by decide +kernel, by decide +kernel⟩, List.mem_of_getElem? (i := 26) (by decide +kernel), List.mem_of_getElem? (i := 474) (by decide +kernel), List.mem_of_getElem? (i := 475) (by decide +kernel)⟩
theorem lw_p9 : lw_okq (⟨"LateRows$Reader", "isSign", "(C)Z"⟩, 8) := ⟨⟨by decide +kernel, by decide +kernel⟩, List.mem_of_getElem? (i := 26) (by decide +kernel), List.mem_of_getElem? (i := 478) (by decide +kernel), List.mem_of_getElem? (i := 479) (by decide +kernel)⟩
theorem lw_p10 : lw_okq (⟨"LateRows$Reader", "readNumber", "(II)I"⟩, 8) := ⟨⟨by decide +kernel, by decide +kernel⟩, List.mem_of_getElem? (i := 26) (by decide +kernel), List.mem_of_getElem? (i := 482) (by decide +kernel), List.mem_of_getElem? (i := 483) (by decide +kernel)⟩
theorem lw_p11 : lw_okq (⟨"LateRows$Reader", "readNums", "(I)V"⟩, 8) := ⟨⟨by decide +kernel, by decide +kernel⟩, List.mem_of_getElem? (i := 26) (by decide +kernel), List.mem_of_getElem? (i := 486) (by decide +kernel), List.mem_of_getElem? (i := 487) (by decide +kernel)⟩
theorem lw_p12 : lw_okq (⟨"LateRows$Texts", "takeParts", "(LLateRows$Texts;III)V"⟩, 8) := ⟨⟨by decide +kernel, by decide +kernel⟩, List.mem_of_getElem? (i := 32) (by decide +kernel), List.mem_of_getElem? (i := 502) (by decide +kernel), List.mem_of_getElem? (i := 503) (by decide +kernel)⟩
theorem lw_p13 : lw_okq (⟨"LateRows$Told", "untellPart", "(I)V"⟩, 12) := ⟨⟨by decide +kernel, by decide +kernel⟩, List.mem_of_getElem? (i := 135) (by decide +kernel), List.mem_of_getElem? (i := 513) (by decide +kernel), List.mem_of_getElem? (i := 514) (by decide +kernel)⟩
theorem lw_p14 : lw_okq (⟨"LateRows", "isEmpty", "(I)Z"⟩, 14) := ⟨⟨by decide +kernel, by decide +kernel⟩, List.mem_of_getElem? (i := 18) (by decide +kernel), List.mem_of_getElem? (i := 525) (by decide +kernel), List.mem_of_getElem? (i := 526) (by decide +kernel)⟩
theorem lw_p15 : lw_okq (⟨"LateRows", "hasPart", "(II)Z"⟩, 14) := ⟨⟨by decide +kernel, by decide +kernel⟩, List.mem_of_getElem? (i := 18) (by decide +kernel), List.mem_of_getElem? (i := 529) (by decide +kernel), List.mem_of_getElem? (i := 530) (by decide +kernel)⟩
def lw_privs_1 : List (MethodName × Nat) := [(⟨"LateRows$Reader", "splitTape", "()V"⟩, 8), (⟨"LateRows$Reader", "meaningOf", "(III)I"⟩, 8), (⟨"LateRows$Reader", "kindOfWord", "(II)I"⟩, 8), (⟨"LateRows$Reader", "isWord", "(Ljava/lang/String;II)Z"⟩, 8), (⟨"LateRows$Reader", "readPart", "(I)V"⟩, 8), (⟨"LateRows$Reader", "miss", "()V"⟩, 8), (⟨"LateRows$Reader", "readField", "(IC)V"⟩, 8), (⟨"LateRows$Reader", "readSign", "(Ljava/lang/String;)I"⟩, 8), (⟨"LateRows$Reader", "readNum", "()I"⟩, 8), (⟨"LateRows$Reader", "isSign", "(C)Z"⟩, 8), (⟨"LateRows$Reader", "readNumber", "(II)I"⟩, 8), (⟨"LateRows$Reader", "readNums", "(I)V"⟩, 8), (⟨"LateRows$Texts", "takeParts", "(LLateRows$Texts;III)V"⟩, 8), (⟨"LateRows$Told", "untellPart", "(I)V"⟩, 12), (⟨"LateRows", "isEmpty", "(I)Z"⟩, 14), (⟨"LateRows", "hasPart", "(II)Z"⟩, 14)]
theorem lw_r1 : ∀ q ∈ lw_privs_1, lw_okq q := List.forall_mem_cons.mpr ⟨lw_p0, List.forall_mem_cons.mpr ⟨lw_p1, List.forall_mem_cons.mpr ⟨lw_p2, List.forall_mem_cons.mpr ⟨lw_p3, List.forall_mem_cons.mpr ⟨lw_p4, List.forall_mem_cons.mpr ⟨lw_p5, List.forall_mem_cons.mpr ⟨lw_p6, List.forall_mem_cons.mpr ⟨lw_p7, List.forall_mem_cons.mpr ⟨lw_p8, List.forall_mem_cons.mpr ⟨lw_p9, List.forall_mem_cons.mpr ⟨lw_p10, List.forall_mem_cons.mpr ⟨lw_p11, List.forall_mem_cons.mpr ⟨lw_p12, List.forall_mem_cons.mpr ⟨lw_p13, List.forall_mem_cons.mpr ⟨lw_p14, List.forall_mem_cons.mpr ⟨lw_p15, fun _ h => absurd h List.not_mem_nil⟩⟩⟩⟩⟩⟩⟩⟩⟩⟩⟩⟩⟩⟩⟩⟩
theorem lw_p16 : lw_okq (⟨"LateRows$Printer", "writePart", "(LLateRows$Texts;I)V"⟩, 2) := ⟨⟨by decide +kernel, by decide +kernel⟩, List.mem_of_getElem? (i := 118) (by decide +kernel), List.mem_of_getElem? (i := 565) (by decide +kernel), List.mem_of_getElem? (i := 566) (by decide +kernel)⟩
theorem lw_p17 : lw_okq (⟨"LateRows$Printer", "writeSign", "(I)V"⟩, 2) := ⟨⟨by decide +kernel, by decide +kernel⟩, List.mem_of_getElem? (i := 118) (by decide +kernel), List.mem_of_getElem? (i := 569) (by decide +kernel), List.mem_of_getElem? (i := 570) (by decide +kernel)⟩
theorem lw_p18 : lw_okq (⟨"LateRows$Printer", "writeBlank", "()V"⟩, 2) := ⟨⟨by decide +kernel, by decide +kernel⟩, List.mem_of_getElem? (i := 118) (by decide +kernel), List.mem_of_getElem? (i := 573) (by decide +kernel), List.mem_of_getElem? (i := 574) (by decide +kernel)⟩
theorem lw_p19 : lw_okq (⟨"LateRows$Printer", "writeByte", "(I)V"⟩, 2) := ⟨⟨by decide +kernel, by decide +kernel⟩, List.mem_of_getElem? (i := 118) (by decide +kernel), List.mem_of_getElem? (i := 577) (by decide +kernel), List.mem_of_getElem? (i := 578) (by decide +kernel)⟩
theorem lw_p20 : lw_okq (⟨"LateRows$Printer", "writeWord", "(Ljava/lang/String;)V"⟩, 2) := ⟨⟨by decide +kernel, by decide +kernel⟩, List.mem_of_getElem? (i := 118) (by decide +kernel), List.mem_of_getElem? (i := 582) (by decide +kernel), List.mem_of_getElem? (i := 583) (by decide +kernel)⟩
theorem lw_p21 : lw_okq (⟨"LateRows$Printer", "writeField", "(LLateRows$Texts;IC)V"⟩, 2) := ⟨⟨by decide +kernel, by decide +kernel⟩, List.mem_of_getElem? (i := 118) (by decide +kernel), List.mem_of_getElem? (i := 589) (by decide +kernel), List.mem_of_getElem? (i := 590) (by decide +kernel)⟩
theorem lw_p22 : lw_okq (⟨"LateRows$Printer", "writeNum", "(J)V"⟩, 2) := ⟨⟨by decide +kernel, by decide +kernel⟩, List.mem_of_getElem? (i := 118) (by decide +kernel), List.mem_of_getElem? (i := 593) (by decide +kernel), List.mem_of_getElem? (i := 594) (by decide +kernel)⟩
theorem lw_p23 : lw_okq (⟨"LateRows$Printer", "writeNums", "(LLateRows$Texts;I)V"⟩, 2) := ⟨⟨by decide +kernel, by decide +kernel⟩, List.mem_of_getElem? (i := 118) (by decide +kernel), List.mem_of_getElem? (i := 599) (by decide +kernel), List.mem_of_getElem? (i := 600) (by decide +kernel)⟩
theorem lw_p24 : lw_okq (⟨"LateRows", "refusedPlace", "(II)I"⟩, 14) := ⟨⟨by decide +kernel, by decide +kernel⟩, List.mem_of_getElem? (i := 18) (by decide +kernel), List.mem_of_getElem? (i := 607) (by decide +kernel), List.mem_of_getElem? (i := 608) (by decide +kernel)⟩
theorem lw_p25 : lw_okq (⟨"LateRows", "refusedRow", "(III)I"⟩, 14) := ⟨⟨by decide +kernel, by decide +kernel⟩, List.mem_of_getElem? (i := 18) (by decide +kernel), List.mem_of_getElem? (i := 611) (by decide +kernel), List.mem_of_getElem? (i := 612) (by decide +kernel)⟩
theorem lw_p26 : lw_okq (⟨"LateRows$Teller", "askPlace", "(II)I"⟩, 5) := ⟨⟨by decide +kernel, by decide +kernel⟩, List.mem_of_getElem? (i := 192) (by decide +kernel), List.mem_of_getElem? (i := 623) (by decide +kernel), List.mem_of_getElem? (i := 624) (by decide +kernel)⟩
theorem lw_p27 : lw_okq (⟨"LateRows$Teller", "behindNames", "(I)I"⟩, 5) := ⟨⟨by decide +kernel, by decide +kernel⟩, List.mem_of_getElem? (i := 192) (by decide +kernel), List.mem_of_getElem? (i := 627) (by decide +kernel), List.mem_of_getElem? (i := 628) (by decide +kernel)⟩
theorem lw_p28 : lw_okq (⟨"LateRows$Teller", "beginsRun", "()Z"⟩, 5) := ⟨⟨by decide +kernel, by decide +kernel⟩, List.mem_of_getElem? (i := 192) (by decide +kernel), List.mem_of_getElem? (i := 631) (by decide +kernel), List.mem_of_getElem? (i := 632) (by decide +kernel)⟩
theorem lw_p29 : lw_okq (⟨"LateRows$Teller", "seeks", "(I)Z"⟩, 5) := ⟨⟨by decide +kernel, by decide +kernel⟩, List.mem_of_getElem? (i := 192) (by decide +kernel), List.mem_of_getElem? (i := 639) (by decide +kernel), List.mem_of_getElem? (i := 640) (by decide +kernel)⟩
theorem lw_p30 : lw_okq (⟨"LateRows$Teller", "seekPlace", "(II)I"⟩, 5) := ⟨⟨by decide +kernel, by decide +kernel⟩, List.mem_of_getElem? (i := 192) (by decide +kernel), List.mem_of_getElem? (i := 643) (by decide +kernel), List.mem_of_getElem? (i := 644) (by decide +kernel)⟩
theorem lw_p31 : lw_okq (⟨"LateRows$Teller", "askHead", "(II)I"⟩, 5) := ⟨⟨by decide +kernel, by decide +kernel⟩, List.mem_of_getElem? (i := 192) (by decide +kernel), List.mem_of_getElem? (i := 651) (by decide +kernel), List.mem_of_getElem? (i := 652) (by decide +kernel)⟩
def lw_privs_2 : List (MethodName × Nat) := [(⟨"LateRows$Printer", "writePart", "(LLateRows$Texts;I)V"⟩, 2), (⟨"LateRows$Printer", "writeSign", "(I)V"⟩, 2), (⟨"LateRows$Printer", "writeBlank", "()V"⟩, 2), (⟨"LateRows$Printer", "writeByte", "(I)V"⟩, 2), (⟨"LateRows$Printer", "writeWord", "(Ljava/lang/String;)V"⟩, 2), (⟨"LateRows$Printer", "writeField", "(LLateRows$Texts;IC)V"⟩, 2), (⟨"LateRows$Printer", "writeNum", "(J)V"⟩, 2), (⟨"LateRows$Printer", "writeNums", "(LLateRows$Texts;I)V"⟩, 2), (⟨"LateRows", "refusedPlace", "(II)I"⟩, 14), (⟨"LateRows", "refusedRow", "(III)I"⟩, 14), (⟨"LateRows$Teller", "askPlace", "(II)I"⟩, 5), (⟨"LateRows$Teller", "behindNames", "(I)I"⟩, 5), (⟨"LateRows$Teller", "beginsRun", "()Z"⟩, 5), (⟨"LateRows$Teller", "seeks", "(I)Z"⟩, 5), (⟨"LateRows$Teller", "seekPlace", "(II)I"⟩, 5), (⟨"LateRows$Teller", "askHead", "(II)I"⟩, 5)]
theorem lw_r2 : ∀ q ∈ lw_privs_2, lw_okq q := List.forall_mem_cons.mpr ⟨lw_p16, List.forall_mem_cons.mpr ⟨lw_p17, List.forall_mem_cons.mpr ⟨lw_p18, List.forall_mem_cons.mpr ⟨lw_p19, List.forall_mem_cons.mpr ⟨lw_p20, List.forall_mem_cons.mpr ⟨lw_p21, List.forall_mem_cons.mpr ⟨lw_p22, List.forall_mem_cons.mpr ⟨lw_p23, List.forall_mem_cons.mpr ⟨lw_p24, List.forall_mem_cons.mpr ⟨lw_p25, List.forall_mem_cons.mpr ⟨lw_p26, List.forall_mem_cons.mpr ⟨lw_p27, List.forall_mem_cons.mpr ⟨lw_p28, List.forall_mem_cons.mpr ⟨lw_p29, List.forall_mem_cons.mpr ⟨lw_p30, List.forall_mem_cons.mpr ⟨lw_p31, fun _ h => absurd h List.not_mem_nil⟩⟩⟩⟩⟩⟩⟩⟩⟩⟩⟩⟩⟩⟩⟩⟩
theorem lw_p32 : lw_okq (⟨"LateRows$Teller", "tellHead", "(II)I"⟩, 5) := ⟨⟨by decide +kernel, by decide +kernel⟩, List.mem_of_getElem? (i := 192) (by decide +kernel), List.mem_of_getElem? (i := 655) (by decide +kernel), List.mem_of_getElem? (i := 656) (by decide +kernel)⟩
theorem lw_p33 : lw_okq (⟨"LateRows$Teller", "tellNumber", "(J)I"⟩, 5) := ⟨⟨by decide +kernel, by decide +kernel⟩, List.mem_of_getElem? (i := 192) (by decide +kernel), List.mem_of_getElem? (i := 659) (by decide +kernel), List.mem_of_getElem? (i := 660) (by decide +kernel)⟩
theorem lw_p34 : lw_okq (⟨"LateRows$Teller", "combine", "(IJJ)I"⟩, 5) := ⟨⟨by decide +kernel, by decide +kernel⟩, List.mem_of_getElem? (i := 192) (by decide +kernel), List.mem_of_getElem? (i := 663) (by decide +kernel), List.mem_of_getElem? (i := 664) (by decide +kernel)⟩
theorem lw_p35 : lw_okq (⟨"LateRows$Teller", "passesOwnHeads", "(IIJ)I"⟩, 5) := ⟨⟨by decide +kernel, by decide +kernel⟩, List.mem_of_getElem? (i := 192) (by decide +kernel), List.mem_of_getElem? (i := 674) (by decide +kernel), List.mem_of_getElem? (i := 675) (by decide +kernel)⟩
theorem lw_p36 : lw_okq (⟨"LateRows$Teller", "mergePlace", "(II)I"⟩, 5) := ⟨⟨by decide +kernel, by decide +kernel⟩, List.mem_of_getElem? (i := 192) (by decide +kernel), List.mem_of_getElem? (i := 678) (by decide +kernel), List.mem_of_getElem? (i := 679) (by decide +kernel)⟩
theorem lw_p37 : lw_okq (⟨"LateRows$Teller", "tellPlace", "(II)I"⟩, 5) := ⟨⟨by decide +kernel, by decide +kernel⟩, List.mem_of_getElem? (i := 192) (by decide +kernel), List.mem_of_getElem? (i := 682) (by decide +kernel), List.mem_of_getElem? (i := 683) (by decide +kernel)⟩
theorem lw_p38 : lw_okq (⟨"LateRows", "counted", "(I)I"⟩, 14) := ⟨⟨by decide +kernel, by decide +kernel⟩, List.mem_of_getElem? (i := 18) (by decide +kernel), List.mem_of_getElem? (i := 686) (by decide +kernel), List.mem_of_getElem? (i := 687) (by decide +kernel)⟩
theorem lw_p39 : lw_okq (⟨"LateRows$Told", "takePart", "(LLateRows$Told;I)V"⟩, 12) := ⟨⟨by decide +kernel, by decide +kernel⟩, List.mem_of_getElem? (i := 135) (by decide +kernel), List.mem_of_getElem? (i := 711) (by decide +kernel), List.mem_of_getElem? (i := 712) (by decide +kernel)⟩
theorem lw_p40 : lw_okq (⟨"LateRows", "tellingStreams", "(I)I"⟩, 14) := ⟨⟨by decide +kernel, by decide +kernel⟩, List.mem_of_getElem? (i := 18) (by decide +kernel), List.mem_of_getElem? (i := 797) (by decide +kernel), List.mem_of_getElem? (i := 798) (by decide +kernel)⟩
theorem lw_p41 : lw_okq (⟨"LateRows", "isToldBy", "(II)Z"⟩, 14) := ⟨⟨by decide +kernel, by decide +kernel⟩, List.mem_of_getElem? (i := 18) (by decide +kernel), List.mem_of_getElem? (i := 801) (by decide +kernel), List.mem_of_getElem? (i := 802) (by decide +kernel)⟩
theorem lw_p42 : lw_okq (⟨"LateRows", "tellingNumbers", "(IIIZ)I"⟩, 14) := ⟨⟨by decide +kernel, by decide +kernel⟩, List.mem_of_getElem? (i := 18) (by decide +kernel), List.mem_of_getElem? (i := 809) (by decide +kernel), List.mem_of_getElem? (i := 810) (by decide +kernel)⟩
theorem lw_p43 : lw_okq (⟨"LateRowsModel", "next", "()V"⟩, 69) := ⟨⟨by decide +kernel, by decide +kernel⟩, List.mem_of_getElem? (i := 869) (by decide +kernel), List.mem_of_getElem? (i := 1098) (by decide +kernel), List.mem_of_getElem? (i := 1099) (by decide +kernel)⟩
theorem lw_p44 : lw_okq (⟨"LateRowsModel", "byteAt", "(I)I"⟩, 69) := ⟨⟨by decide +kernel, by decide +kernel⟩, List.mem_of_getElem? (i := 869) (by decide +kernel), List.mem_of_getElem? (i := 1102) (by decide +kernel), List.mem_of_getElem? (i := 1103) (by decide +kernel)⟩
theorem lw_p45 : lw_okq (⟨"LateRowsModel", "kindOf", "()I"⟩, 69) := ⟨⟨by decide +kernel, by decide +kernel⟩, List.mem_of_getElem? (i := 869) (by decide +kernel), List.mem_of_getElem? (i := 1108) (by decide +kernel), List.mem_of_getElem? (i := 1109) (by decide +kernel)⟩
theorem lw_p46 : lw_okq (⟨"LateRowsModel", "isWord", "(IIIII)Z"⟩, 69) := ⟨⟨by decide +kernel, by decide +kernel⟩, List.mem_of_getElem? (i := 869) (by decide +kernel), List.mem_of_getElem? (i := 1113) (by decide +kernel), List.mem_of_getElem? (i := 1114) (by decide +kernel)⟩
theorem lw_p47 : lw_okq (⟨"LateRowsModel", "isLetter", "(II)Z"⟩, 69) := ⟨⟨by decide +kernel, by decide +kernel⟩, List.mem_of_getElem? (i := 869) (by decide +kernel), List.mem_of_getElem? (i := 1117) (by decide +kernel), List.mem_of_getElem? (i := 1118) (by decide +kernel)⟩
def lw_privs_3 : List (MethodName × Nat) := [(⟨"LateRows$Teller", "tellHead", "(II)I"⟩, 5), (⟨"LateRows$Teller", "tellNumber", "(J)I"⟩, 5), (⟨"LateRows$Teller", "combine", "(IJJ)I"⟩, 5), (⟨"LateRows$Teller", "passesOwnHeads", "(IIJ)I"⟩, 5), (⟨"LateRows$Teller", "mergePlace", "(II)I"⟩, 5), (⟨"LateRows$Teller", "tellPlace", "(II)I"⟩, 5), (⟨"LateRows", "counted", "(I)I"⟩, 14), (⟨"LateRows$Told", "takePart", "(LLateRows$Told;I)V"⟩, 12), (⟨"LateRows", "tellingStreams", "(I)I"⟩, 14), (⟨"LateRows", "isToldBy", "(II)Z"⟩, 14), (⟨"LateRows", "tellingNumbers", "(IIIZ)I"⟩, 14), (⟨"LateRowsModel", "next", "()V"⟩, 69), (⟨"LateRowsModel", "byteAt", "(I)I"⟩, 69), (⟨"LateRowsModel", "kindOf", "()I"⟩, 69), (⟨"LateRowsModel", "isWord", "(IIIII)Z"⟩, 69), (⟨"LateRowsModel", "isLetter", "(II)Z"⟩, 69)]
theorem lw_r3 : ∀ q ∈ lw_privs_3, lw_okq q := List.forall_mem_cons.mpr ⟨lw_p32, List.forall_mem_cons.mpr ⟨lw_p33, List.forall_mem_cons.mpr ⟨lw_p34, List.forall_mem_cons.mpr ⟨lw_p35, List.forall_mem_cons.mpr ⟨lw_p36, List.forall_mem_cons.mpr ⟨lw_p37, List.forall_mem_cons.mpr ⟨lw_p38, List.forall_mem_cons.mpr ⟨lw_p39, List.forall_mem_cons.mpr ⟨lw_p40, List.forall_mem_cons.mpr ⟨lw_p41, List.forall_mem_cons.mpr ⟨lw_p42, List.forall_mem_cons.mpr ⟨lw_p43, List.forall_mem_cons.mpr ⟨lw_p44, List.forall_mem_cons.mpr ⟨lw_p45, List.forall_mem_cons.mpr ⟨lw_p46, List.forall_mem_cons.mpr ⟨lw_p47, fun _ h => absurd h List.not_mem_nil⟩⟩⟩⟩⟩⟩⟩⟩⟩⟩⟩⟩⟩⟩⟩⟩
theorem lw_p48 : lw_okq (⟨"LateRowsModel", "row", "()V"⟩, 69) := ⟨⟨by decide +kernel, by decide +kernel⟩, List.mem_of_getElem? (i := 869) (by decide +kernel), List.mem_of_getElem? (i := 1126) (by decide +kernel), List.mem_of_getElem? (i := 1127) (by decide +kernel)⟩
theorem lw_p49 : lw_okq (⟨"LateRowsModel", "fail", "()V"⟩, 69) := ⟨⟨by decide +kernel, by decide +kernel⟩, List.mem_of_getElem? (i := 869) (by decide +kernel), List.mem_of_getElem? (i := 1130) (by decide +kernel), List.mem_of_getElem? (i := 1131) (by decide +kernel)⟩
theorem lw_p50 : lw_okq (⟨"LateRowsModel", "op", "(Z)I"⟩, 69) := ⟨⟨by decide +kernel, by decide +kernel⟩, List.mem_of_getElem? (i := 869) (by decide +kernel), List.mem_of_getElem? (i := 1134) (by decide +kernel), List.mem_of_getElem? (i := 1135) (by decide +kernel)⟩
theorem lw_p51 : lw_okq (⟨"LateRowsModel", "isSign", "(I)Z"⟩, 69) := ⟨⟨by decide +kernel, by decide +kernel⟩, List.mem_of_getElem? (i := 869) (by decide +kernel), List.mem_of_getElem? (i := 1138) (by decide +kernel), List.mem_of_getElem? (i := 1139) (by decide +kernel)⟩
theorem lw_p52 : lw_okq (⟨"LateRowsModel", "num", "()J"⟩, 69) := ⟨⟨by decide +kernel, by decide +kernel⟩, List.mem_of_getElem? (i := 869) (by decide +kernel), List.mem_of_getElem? (i := 1142) (by decide +kernel), List.mem_of_getElem? (i := 1143) (by decide +kernel)⟩
theorem lw_p53 : lw_okq (⟨"LateRowsModel", "plain", "(II)J"⟩, 69) := ⟨⟨by decide +kernel, by decide +kernel⟩, List.mem_of_getElem? (i := 869) (by decide +kernel), List.mem_of_getElem? (i := 1146) (by decide +kernel), List.mem_of_getElem? (i := 1147) (by decide +kernel)⟩
theorem lw_p54 : lw_okq (⟨"LateRowsModel", "list", "(I)V"⟩, 69) := ⟨⟨by decide +kernel, by decide +kernel⟩, List.mem_of_getElem? (i := 869) (by decide +kernel), List.mem_of_getElem? (i := 1150) (by decide +kernel), List.mem_of_getElem? (i := 1151) (by decide +kernel)⟩
theorem lw_p55 : lw_okq (⟨"LateRowsModel", "untells", "()V"⟩, 69) := ⟨⟨by decide +kernel, by decide +kernel⟩, List.mem_of_getElem? (i := 869) (by decide +kernel), List.mem_of_getElem? (i := 1154) (by decide +kernel), List.mem_of_getElem? (i := 1155) (by decide +kernel)⟩
theorem lw_p56 : lw_okq (⟨"LateRowsModel", "isPart", "(II)Z"⟩, 69) := ⟨⟨by decide +kernel, by decide +kernel⟩, List.mem_of_getElem? (i := 869) (by decide +kernel), List.mem_of_getElem? (i := 1167) (by decide +kernel), List.mem_of_getElem? (i := 1168) (by decide +kernel)⟩
theorem lw_p57 : lw_okq (⟨"LateRowsModel", "toldHeads", "(I)I"⟩, 69) := ⟨⟨by decide +kernel, by decide +kernel⟩, List.mem_of_getElem? (i := 869) (by decide +kernel), List.mem_of_getElem? (i := 1171) (by decide +kernel), List.mem_of_getElem? (i := 1172) (by decide +kernel)⟩
theorem lw_p58 : lw_okq (⟨"LateRowsModel", "prints", "(I)V"⟩, 69) := ⟨⟨by decide +kernel, by decide +kernel⟩, List.mem_of_getElem? (i := 869) (by decide +kernel), List.mem_of_getElem? (i := 1207) (by decide +kernel), List.mem_of_getElem? (i := 1208) (by decide +kernel)⟩
theorem lw_p59 : lw_okq (⟨"LateRowsModel", "kindWord", "(I)V"⟩, 69) := ⟨⟨by decide +kernel, by decide +kernel⟩, List.mem_of_getElem? (i := 869) (by decide +kernel), List.mem_of_getElem? (i := 1211) (by decide +kernel), List.mem_of_getElem? (i := 1212) (by decide +kernel)⟩
theorem lw_p60 : lw_okq (⟨"LateRowsModel", "word", "(IIIII)V"⟩, 69) := ⟨⟨by decide +kernel, by decide +kernel⟩, List.mem_of_getElem? (i := 869) (by decide +kernel), List.mem_of_getElem? (i := 1215) (by decide +kernel), List.mem_of_getElem? (i := 1216) (by decide +kernel)⟩
theorem lw_p61 : lw_okq (⟨"LateRowsModel", "gap", "()V"⟩, 69) := ⟨⟨by decide +kernel, by decide +kernel⟩, List.mem_of_getElem? (i := 869) (by decide +kernel), List.mem_of_getElem? (i := 1219) (by decide +kernel), List.mem_of_getElem? (i := 1220) (by decide +kernel)⟩
theorem lw_p62 : lw_okq (⟨"LateRowsModel", "puts", "(I)V"⟩, 69) := ⟨⟨by decide +kernel, by decide +kernel⟩, List.mem_of_getElem? (i := 869) (by decide +kernel), List.mem_of_getElem? (i := 1223) (by decide +kernel), List.mem_of_getElem? (i := 1224) (by decide +kernel)⟩
theorem lw_p63 : lw_okq (⟨"LateRowsModel", "digits", "(J)V"⟩, 69) := ⟨⟨by decide +kernel, by decide +kernel⟩, List.mem_of_getElem? (i := 869) (by decide +kernel), List.mem_of_getElem? (i := 1227) (by decide +kernel), List.mem_of_getElem? (i := 1228) (by decide +kernel)⟩
def lw_privs_4 : List (MethodName × Nat) := [(⟨"LateRowsModel", "row", "()V"⟩, 69), (⟨"LateRowsModel", "fail", "()V"⟩, 69), (⟨"LateRowsModel", "op", "(Z)I"⟩, 69), (⟨"LateRowsModel", "isSign", "(I)Z"⟩, 69), (⟨"LateRowsModel", "num", "()J"⟩, 69), (⟨"LateRowsModel", "plain", "(II)J"⟩, 69), (⟨"LateRowsModel", "list", "(I)V"⟩, 69), (⟨"LateRowsModel", "untells", "()V"⟩, 69), (⟨"LateRowsModel", "isPart", "(II)Z"⟩, 69), (⟨"LateRowsModel", "toldHeads", "(I)I"⟩, 69), (⟨"LateRowsModel", "prints", "(I)V"⟩, 69), (⟨"LateRowsModel", "kindWord", "(I)V"⟩, 69), (⟨"LateRowsModel", "word", "(IIIII)V"⟩, 69), (⟨"LateRowsModel", "gap", "()V"⟩, 69), (⟨"LateRowsModel", "puts", "(I)V"⟩, 69), (⟨"LateRowsModel", "digits", "(J)V"⟩, 69)]
theorem lw_r4 : ∀ q ∈ lw_privs_4, lw_okq q := List.forall_mem_cons.mpr ⟨lw_p48, List.forall_mem_cons.mpr ⟨lw_p49, List.forall_mem_cons.mpr ⟨lw_p50, List.forall_mem_cons.mpr ⟨lw_p51, List.forall_mem_cons.mpr ⟨lw_p52, List.forall_mem_cons.mpr ⟨lw_p53, List.forall_mem_cons.mpr ⟨lw_p54, List.forall_mem_cons.mpr ⟨lw_p55, List.forall_mem_cons.mpr ⟨lw_p56, List.forall_mem_cons.mpr ⟨lw_p57, List.forall_mem_cons.mpr ⟨lw_p58, List.forall_mem_cons.mpr ⟨lw_p59, List.forall_mem_cons.mpr ⟨lw_p60, List.forall_mem_cons.mpr ⟨lw_p61, List.forall_mem_cons.mpr ⟨lw_p62, List.forall_mem_cons.mpr ⟨lw_p63, fun _ h => absurd h List.not_mem_nil⟩⟩⟩⟩⟩⟩⟩⟩⟩⟩⟩⟩⟩⟩⟩⟩
theorem lw_p64 : lw_okq (⟨"LateRowsModel", "begins", "(I)V"⟩, 69) := ⟨⟨by decide +kernel, by decide +kernel⟩, List.mem_of_getElem? (i := 869) (by decide +kernel), List.mem_of_getElem? (i := 1237) (by decide +kernel), List.mem_of_getElem? (i := 1238) (by decide +kernel)⟩
theorem lw_p65 : lw_okq (⟨"LateRowsModel", "place", "(II)I"⟩, 69) := ⟨⟨by decide +kernel, by decide +kernel⟩, List.mem_of_getElem? (i := 869) (by decide +kernel), List.mem_of_getElem? (i := 1241) (by decide +kernel), List.mem_of_getElem? (i := 1242) (by decide +kernel)⟩
theorem lw_p66 : lw_okq (⟨"LateRowsModel", "followed", "(I)I"⟩, 69) := ⟨⟨by decide +kernel, by decide +kernel⟩, List.mem_of_getElem? (i := 869) (by decide +kernel), List.mem_of_getElem? (i := 1245) (by decide +kernel), List.mem_of_getElem? (i := 1246) (by decide +kernel)⟩
theorem lw_p67 : lw_okq (⟨"LateRowsModel", "tellsPlace", "(II)I"⟩, 69) := ⟨⟨by decide +kernel, by decide +kernel⟩, List.mem_of_getElem? (i := 869) (by decide +kernel), List.mem_of_getElem? (i := 1249) (by decide +kernel), List.mem_of_getElem? (i := 1250) (by decide +kernel)⟩
theorem lw_p68 : lw_okq (⟨"LateRowsModel", "keeps", "(II)I"⟩, 69) := ⟨⟨by decide +kernel, by decide +kernel⟩, List.mem_of_getElem? (i := 869) (by decide +kernel), List.mem_of_getElem? (i := 1253) (by decide +kernel), List.mem_of_getElem? (i := 1254) (by decide +kernel)⟩
theorem lw_p69 : lw_okq (⟨"LateRowsModel", "headAsked", "(II)I"⟩, 69) := ⟨⟨by decide +kernel, by decide +kernel⟩, List.mem_of_getElem? (i := 869) (by decide +kernel), List.mem_of_getElem? (i := 1257) (by decide +kernel), List.mem_of_getElem? (i := 1258) (by decide +kernel)⟩
theorem lw_p70 : lw_okq (⟨"LateRowsModel", "tellsHead", "(II)I"⟩, 69) := ⟨⟨by decide +kernel, by decide +kernel⟩, List.mem_of_getElem? (i := 869) (by decide +kernel), List.mem_of_getElem? (i := 1261) (by decide +kernel), List.mem_of_getElem? (i := 1262) (by decide +kernel)⟩
theorem lw_p71 : lw_okq (⟨"LateRowsModel", "cuts", "(II)I"⟩, 69) := ⟨⟨by decide +kernel, by decide +kernel⟩, List.mem_of_getElem? (i := 869) (by decide +kernel), List.mem_of_getElem? (i := 1265) (by decide +kernel), List.mem_of_getElem? (i := 1266) (by decide +kernel)⟩
theorem lw_p72 : lw_okq (⟨"LateRowsModel", "other", "(I)I"⟩, 69) := ⟨⟨by decide +kernel, by decide +kernel⟩, List.mem_of_getElem? (i := 869) (by decide +kernel), List.mem_of_getElem? (i := 1269) (by decide +kernel), List.mem_of_getElem? (i := 1270) (by decide +kernel)⟩
theorem lw_p73 : lw_okq (⟨"LateRowsModel", "joined", "(IJJ)I"⟩, 69) := ⟨⟨by decide +kernel, by decide +kernel⟩, List.mem_of_getElem? (i := 869) (by decide +kernel), List.mem_of_getElem? (i := 1273) (by decide +kernel), List.mem_of_getElem? (i := 1274) (by decide +kernel)⟩
theorem lw_p74 : lw_okq (⟨"LateRowsModel", "passes", "(IJ)I"⟩, 69) := ⟨⟨by decide +kernel, by decide +kernel⟩, List.mem_of_getElem? (i := 869) (by decide +kernel), List.mem_of_getElem? (i := 1277) (by decide +kernel), List.mem_of_getElem? (i := 1278) (by decide +kernel)⟩
theorem lw_p75 : lw_okq (⟨"LateRowsModel", "sieved", "(IIJ)I"⟩, 69) := ⟨⟨by decide +kernel, by decide +kernel⟩, List.mem_of_getElem? (i := 869) (by decide +kernel), List.mem_of_getElem? (i := 1281) (by decide +kernel), List.mem_of_getElem? (i := 1282) (by decide +kernel)⟩
theorem lw_p76 : lw_okq (⟨"LateRowsModel", "merges", "(II)I"⟩, 69) := ⟨⟨by decide +kernel, by decide +kernel⟩, List.mem_of_getElem? (i := 869) (by decide +kernel), List.mem_of_getElem? (i := 1285) (by decide +kernel), List.mem_of_getElem? (i := 1286) (by decide +kernel)⟩
theorem lw_p77 : lw_okq (⟨"LateRowsModel", "outcome", "(II)I"⟩, 69) := ⟨⟨by decide +kernel, by decide +kernel⟩, List.mem_of_getElem? (i := 869) (by decide +kernel), List.mem_of_getElem? (i := 1293) (by decide +kernel), List.mem_of_getElem? (i := 1294) (by decide +kernel)⟩
theorem lw_p78 : lw_okq (⟨"LateRowsModel", "toldAll", "(I)I"⟩, 69) := ⟨⟨by decide +kernel, by decide +kernel⟩, List.mem_of_getElem? (i := 869) (by decide +kernel), List.mem_of_getElem? (i := 1311) (by decide +kernel), List.mem_of_getElem? (i := 1312) (by decide +kernel)⟩
theorem lw_p79 : lw_okq (⟨"LateRowsModel", "isFull", "(I)Z"⟩, 69) := ⟨⟨by decide +kernel, by decide +kernel⟩, List.mem_of_getElem? (i := 869) (by decide +kernel), List.mem_of_getElem? (i := 1319) (by decide +kernel), List.mem_of_getElem? (i := 1320) (by decide +kernel)⟩
def lw_privs_5 : List (MethodName × Nat) := [(⟨"LateRowsModel", "begins", "(I)V"⟩, 69), (⟨"LateRowsModel", "place", "(II)I"⟩, 69), (⟨"LateRowsModel", "followed", "(I)I"⟩, 69), (⟨"LateRowsModel", "tellsPlace", "(II)I"⟩, 69), (⟨"LateRowsModel", "keeps", "(II)I"⟩, 69), (⟨"LateRowsModel", "headAsked", "(II)I"⟩, 69), (⟨"LateRowsModel", "tellsHead", "(II)I"⟩, 69), (⟨"LateRowsModel", "cuts", "(II)I"⟩, 69), (⟨"LateRowsModel", "other", "(I)I"⟩, 69), (⟨"LateRowsModel", "joined", "(IJJ)I"⟩, 69), (⟨"LateRowsModel", "passes", "(IJ)I"⟩, 69), (⟨"LateRowsModel", "sieved", "(IIJ)I"⟩, 69), (⟨"LateRowsModel", "merges", "(II)I"⟩, 69), (⟨"LateRowsModel", "outcome", "(II)I"⟩, 69), (⟨"LateRowsModel", "toldAll", "(I)I"⟩, 69), (⟨"LateRowsModel", "isFull", "(I)Z"⟩, 69)]
theorem lw_r5 : ∀ q ∈ lw_privs_5, lw_okq q := List.forall_mem_cons.mpr ⟨lw_p64, List.forall_mem_cons.mpr ⟨lw_p65, List.forall_mem_cons.mpr ⟨lw_p66, List.forall_mem_cons.mpr ⟨lw_p67, List.forall_mem_cons.mpr ⟨lw_p68, List.forall_mem_cons.mpr ⟨lw_p69, List.forall_mem_cons.mpr ⟨lw_p70, List.forall_mem_cons.mpr ⟨lw_p71, List.forall_mem_cons.mpr ⟨lw_p72, List.forall_mem_cons.mpr ⟨lw_p73, List.forall_mem_cons.mpr ⟨lw_p74, List.forall_mem_cons.mpr ⟨lw_p75, List.forall_mem_cons.mpr ⟨lw_p76, List.forall_mem_cons.mpr ⟨lw_p77, List.forall_mem_cons.mpr ⟨lw_p78, List.forall_mem_cons.mpr ⟨lw_p79, fun _ h => absurd h List.not_mem_nil⟩⟩⟩⟩⟩⟩⟩⟩⟩⟩⟩⟩⟩⟩⟩⟩
theorem lw_p80 : lw_okq (⟨"LateRowsModel", "laysAside", "()V"⟩, 69) := ⟨⟨by decide +kernel, by decide +kernel⟩, List.mem_of_getElem? (i := 869) (by decide +kernel), List.mem_of_getElem? (i := 1340) (by decide +kernel), List.mem_of_getElem? (i := 1341) (by decide +kernel)⟩
theorem lw_p81 : lw_okq (⟨"LateRowsModel", "laysBack", "()V"⟩, 69) := ⟨⟨by decide +kernel, by decide +kernel⟩, List.mem_of_getElem? (i := 869) (by decide +kernel), List.mem_of_getElem? (i := 1344) (by decide +kernel), List.mem_of_getElem? (i := 1345) (by decide +kernel)⟩
theorem lw_p82 : lw_okq (⟨"LateRowsModel", "isSo", "(IIZ)Z"⟩, 69) := ⟨⟨by decide +kernel, by decide +kernel⟩, List.mem_of_getElem? (i := 869) (by decide +kernel), List.mem_of_getElem? (i := 1365) (by decide +kernel), List.mem_of_getElem? (i := 1366) (by decide +kernel)⟩
theorem lw_p83 : lw_okq (⟨"LateRowsModel", "full", "()I"⟩, 69) := ⟨⟨by decide +kernel, by decide +kernel⟩, List.mem_of_getElem? (i := 869) (by decide +kernel), List.mem_of_getElem? (i := 1373) (by decide +kernel), List.mem_of_getElem? (i := 1374) (by decide +kernel)⟩
def lw_privs_6 : List (MethodName × Nat) := [(⟨"LateRowsModel", "laysAside", "()V"⟩, 69), (⟨"LateRowsModel", "laysBack", "()V"⟩, 69), (⟨"LateRowsModel", "isSo", "(IIZ)Z"⟩, 69), (⟨"LateRowsModel", "full", "()I"⟩, 69)]
theorem lw_r6 : ∀ q ∈ lw_privs_6, lw_okq q := List.forall_mem_cons.mpr ⟨lw_p80, List.forall_mem_cons.mpr ⟨lw_p81, List.forall_mem_cons.mpr ⟨lw_p82, List.forall_mem_cons.mpr ⟨lw_p83, fun _ h => absurd h List.not_mem_nil⟩⟩⟩⟩
def lw_privs : List (MethodName × Nat) := lw_privs_1 ++ (lw_privs_2 ++ (lw_privs_3 ++ (lw_privs_4 ++ (lw_privs_5 ++ (lw_privs_6)))))
def lw_tbl : List Cond := k2_sels lw_privs ++ tables_1
theorem lw_privs_ok : ∀ q ∈ lw_privs, lw_okq q := by
  show ∀ q ∈ lw_privs_1 ++ (lw_privs_2 ++ (lw_privs_3 ++ (lw_privs_4 ++ (lw_privs_5 ++ (lw_privs_6))))), lw_okq q
  exact List.forall_mem_append.mpr ⟨lw_r1, List.forall_mem_append.mpr ⟨lw_r2, List.forall_mem_append.mpr ⟨lw_r3, List.forall_mem_append.mpr ⟨lw_r4, List.forall_mem_append.mpr ⟨lw_r5, lw_r6⟩⟩⟩⟩⟩
end
section
def RX0 : String := "LateRows$Kinds"
def TX0 : u_T := fun k => match k with
  | _ => ("", "", "", false)
def tyX0 : Nat → FieldType := fun k => match k with
  | _ => .int
abbrev wsX00 : List Cond := u_ws RX0 TX0 0
theorem nmX0 : ∀ a, a < 0 → ∀ b, b < 0 → a ≠ b → (TX0 a).2.1 ≠ (TX0 b).2.1 := by decide +kernel
theorem tyX0_ok : ∀ k, k < 0 → parseFieldDescriptor (TX0 k).2.2.1 = some (tyX0 k) := by decide +kernel
abbrev cX0_word : ByteArray := prog_2_method_2_code
def yX0_word : MethodName := ⟨RX0, "word", "(I)Ljava/lang/String;"⟩
abbrev cX0_shape : ByteArray := prog_2_method_3_code
def yX0_shape : MethodName := ⟨RX0, "shape", "(I)Ljava/lang/String;"⟩
abbrev cX0_rows : ByteArray := prog_2_method_4_code
def yX0_rows : MethodName := ⟨RX0, "rows", "(I)I"⟩
abbrev cX0_hasNumber : ByteArray := prog_2_method_5_code
def yX0_hasNumber : MethodName := ⟨RX0, "hasNumber", "(I)Z"⟩
abbrev cX0_allows : ByteArray := prog_2_method_6_code
def yX0_allows : MethodName := ⟨RX0, "allows", "(II)Z"⟩
def RX1 : String := "LateRows$Printer"
def TX1 : u_T := fun k => match k with
  | 0 => ("LateRows$Printer", "bytes", "[I", true)
  | _ => ("LateRows$Printer", "size", "I", false)
def tyX1 : Nat → FieldType := fun k => match k with
  | 0 => .array .int
  | _ => .int
abbrev wsX10 : List Cond := u_ws RX1 TX1 2
theorem nmX1 : ∀ a, a < 2 → ∀ b, b < 2 → a ≠ b → (TX1 a).2.1 ≠ (TX1 b).2.1 := by decide +kernel
theorem tyX1_ok : ∀ k, k < 2 → parseFieldDescriptor (TX1 k).2.2.1 = some (tyX1 k) := by decide +kernel
abbrev cX1_init : ByteArray := prog_3_method_1_code
def yX1_init : MethodName := ⟨RX1, "<init>", "()V"⟩
abbrev cX1_writeStream : ByteArray := prog_3_method_2_code
def yX1_writeStream : MethodName := ⟨RX1, "writeStream", "(LLateRows$Texts;I)V"⟩
abbrev cX1_writePart : ByteArray := prog_3_method_3_code
def yX1_writePart : MethodName := ⟨RX1, "writePart", "(LLateRows$Texts;I)V"⟩
abbrev cX1_writeField : ByteArray := prog_3_method_4_code
def yX1_writeField : MethodName := ⟨RX1, "writeField", "(LLateRows$Texts;IC)V"⟩
abbrev cX1_writeNums : ByteArray := prog_3_method_5_code
def yX1_writeNums : MethodName := ⟨RX1, "writeNums", "(LLateRows$Texts;I)V"⟩
abbrev cX1_writeWord : ByteArray := prog_3_method_6_code
def yX1_writeWord : MethodName := ⟨RX1, "writeWord", "(Ljava/lang/String;)V"⟩
abbrev cX1_writeSign : ByteArray := prog_3_method_7_code
def yX1_writeSign : MethodName := ⟨RX1, "writeSign", "(I)V"⟩
abbrev cX1_writeNum : ByteArray := prog_3_method_8_code
def yX1_writeNum : MethodName := ⟨RX1, "writeNum", "(J)V"⟩
abbrev cX1_writeBlank : ByteArray := prog_3_method_9_code
def yX1_writeBlank : MethodName := ⟨RX1, "writeBlank", "()V"⟩
abbrev cX1_writeByte : ByteArray := prog_3_method_10_code
def yX1_writeByte : MethodName := ⟨RX1, "writeByte", "(I)V"⟩
def RX2 : String := "LateRows$Reader"
def TX2 : u_T := fun k => match k with
  | 0 => ("LateRows$Reader", "read", "LLateRows$Texts;", true)
  | 1 => ("LateRows$Reader", "size", "I", false)
  | 2 => ("LateRows$Reader", "tape", "[I", true)
  | 3 => ("LateRows$Reader", "begins", "[I", true)
  | 4 => ("LateRows$Reader", "sorts", "[I", true)
  | 5 => ("LateRows$Reader", "meanings", "[I", true)
  | 6 => ("LateRows$Reader", "next", "I", false)
  | _ => ("LateRows$Reader", "fault", "I", false)
def tyX2 : Nat → FieldType := fun k => match k with
  | 0 => .object "LateRows$Texts"
  | 1 => .int
  | 2 => .array .int
  | 3 => .array .int
  | 4 => .array .int
  | 5 => .array .int
  | 6 => .int
  | _ => .int
abbrev wsX20 : List Cond := u_ws RX2 TX2 8
theorem nmX2 : ∀ a, a < 8 → ∀ b, b < 8 → a ≠ b → (TX2 a).2.1 ≠ (TX2 b).2.1 := by decide +kernel
theorem tyX2_ok : ∀ k, k < 8 → parseFieldDescriptor (TX2 k).2.2.1 = some (tyX2 k) := by decide +kernel
abbrev cX2_init : ByteArray := prog_4_method_1_code
def yX2_init : MethodName := ⟨RX2, "<init>", "()V"⟩
abbrev cX2_addByte : ByteArray := prog_4_method_2_code
def yX2_addByte : MethodName := ⟨RX2, "addByte", "(I)I"⟩
abbrev cX2_readTape : ByteArray := prog_4_method_3_code
def yX2_readTape : MethodName := ⟨RX2, "readTape", "()I"⟩
abbrev cX2_miss : ByteArray := prog_4_method_4_code
def yX2_miss : MethodName := ⟨RX2, "miss", "()V"⟩
abbrev cX2_readPart : ByteArray := prog_4_method_5_code
def yX2_readPart : MethodName := ⟨RX2, "readPart", "(I)V"⟩
abbrev cX2_readField : ByteArray := prog_4_method_6_code
def yX2_readField : MethodName := ⟨RX2, "readField", "(IC)V"⟩
abbrev cX2_readNums : ByteArray := prog_4_method_7_code
def yX2_readNums : MethodName := ⟨RX2, "readNums", "(I)V"⟩
abbrev cX2_readNum : ByteArray := prog_4_method_8_code
def yX2_readNum : MethodName := ⟨RX2, "readNum", "()I"⟩
abbrev cX2_readNumber : ByteArray := prog_4_method_9_code
def yX2_readNumber : MethodName := ⟨RX2, "readNumber", "(II)I"⟩
abbrev cX2_readSign : ByteArray := prog_4_method_10_code
def yX2_readSign : MethodName := ⟨RX2, "readSign", "(Ljava/lang/String;)I"⟩
abbrev cX2_isSign : ByteArray := prog_4_method_11_code
def yX2_isSign : MethodName := ⟨RX2, "isSign", "(C)Z"⟩
abbrev cX2_splitTape : ByteArray := prog_4_method_12_code
def yX2_splitTape : MethodName := ⟨RX2, "splitTape", "()V"⟩
abbrev cX2_sortOf : ByteArray := prog_4_method_13_code
def yX2_sortOf : MethodName := ⟨RX2, "sortOf", "(I)I"⟩
abbrev cX2_meaningOf : ByteArray := prog_4_method_14_code
def yX2_meaningOf : MethodName := ⟨RX2, "meaningOf", "(III)I"⟩
abbrev cX2_kindOfWord : ByteArray := prog_4_method_15_code
def yX2_kindOfWord : MethodName := ⟨RX2, "kindOfWord", "(II)I"⟩
abbrev cX2_isWord : ByteArray := prog_4_method_16_code
def yX2_isWord : MethodName := ⟨RX2, "isWord", "(Ljava/lang/String;II)Z"⟩
def RX3 : String := "LateRows$Sheets"
def TX3 : u_T := fun k => match k with
  | 0 => ("LateRows$Sheets", "sorts", "[I", true)
  | 1 => ("LateRows$Sheets", "sizes", "[I", true)
  | _ => ("LateRows$Sheets", "items", "[J", true)
def tyX3 : Nat → FieldType := fun k => match k with
  | 0 => .array .int
  | 1 => .array .int
  | _ => .array .long
abbrev wsX30 : List Cond := u_ws RX3 TX3 3
theorem nmX3 : ∀ a, a < 3 → ∀ b, b < 3 → a ≠ b → (TX3 a).2.1 ≠ (TX3 b).2.1 := by decide +kernel
theorem tyX3_ok : ∀ k, k < 3 → parseFieldDescriptor (TX3 k).2.2.1 = some (tyX3 k) := by decide +kernel
abbrev cX3_init : ByteArray := prog_5_method_1_code
def yX3_init : MethodName := ⟨RX3, "<init>", "()V"⟩
abbrev cX3_isMissing : ByteArray := prog_5_method_2_code
def yX3_isMissing : MethodName := ⟨RX3, "isMissing", "(I)Z"⟩
abbrev cX3_spans : ByteArray := prog_5_method_3_code
def yX3_spans : MethodName := ⟨RX3, "spans", "(III)Z"⟩
abbrev cX3_renew : ByteArray := prog_5_method_4_code
def yX3_renew : MethodName := ⟨RX3, "renew", "(III)V"⟩
abbrev cX3_write : ByteArray := prog_5_method_5_code
def yX3_write : MethodName := ⟨RX3, "write", "(IIJ)V"⟩
abbrev cX3_read : ByteArray := prog_5_method_6_code
def yX3_read : MethodName := ⟨RX3, "read", "(II)J"⟩
abbrev cX3_move : ByteArray := prog_5_method_7_code
def yX3_move : MethodName := ⟨RX3, "move", "(IIIII)V"⟩
def RX4 : String := "LateRows$Teller"
def TX4 : u_T := fun k => match k with
  | 0 => ("LateRows$Teller", "texts", "LLateRows$Texts;", true)
  | 1 => ("LateRows$Teller", "told", "LLateRows$Told;", false)
  | 2 => ("LateRows$Teller", "most", "I", false)
  | 3 => ("LateRows$Teller", "runs", "I", false)
  | _ => ("LateRows$Teller", "value", "J", false)
def tyX4 : Nat → FieldType := fun k => match k with
  | 0 => .object "LateRows$Texts"
  | 1 => .object "LateRows$Told"
  | 2 => .int
  | 3 => .int
  | _ => .long
abbrev wsX40 : List Cond := u_ws RX4 TX4 5
theorem nmX4 : ∀ a, a < 5 → ∀ b, b < 5 → a ≠ b → (TX4 a).2.1 ≠ (TX4 b).2.1 := by decide +kernel
theorem tyX4_ok : ∀ k, k < 5 → parseFieldDescriptor (TX4 k).2.2.1 = some (tyX4 k) := by decide +kernel
abbrev cX4_init : ByteArray := prog_6_method_1_code
def yX4_init : MethodName := ⟨RX4, "<init>", "(LLateRows$Texts;LLateRows$Told;)V"⟩
abbrev cX4_begin : ByteArray := prog_6_method_2_code
def yX4_begin : MethodName := ⟨RX4, "begin", "(LLateRows$Told;I)V"⟩
abbrev cX4_isThere : ByteArray := prog_6_method_3_code
def yX4_isThere : MethodName := ⟨RX4, "isThere", "(II)I"⟩
abbrev cX4_outcome : ByteArray := prog_6_method_4_code
def yX4_outcome : MethodName := ⟨RX4, "outcome", "(II)I"⟩
abbrev cX4_askPlace : ByteArray := prog_6_method_5_code
def yX4_askPlace : MethodName := ⟨RX4, "askPlace", "(II)I"⟩
abbrev cX4_askHead : ByteArray := prog_6_method_6_code
def yX4_askHead : MethodName := ⟨RX4, "askHead", "(II)I"⟩
abbrev cX4_beginsRun : ByteArray := prog_6_method_7_code
def yX4_beginsRun : MethodName := ⟨RX4, "beginsRun", "()Z"⟩
abbrev cX4_seeks : ByteArray := prog_6_method_8_code
def yX4_seeks : MethodName := ⟨RX4, "seeks", "(I)Z"⟩
abbrev cX4_behindNames : ByteArray := prog_6_method_9_code
def yX4_behindNames : MethodName := ⟨RX4, "behindNames", "(I)I"⟩
abbrev cX4_tellPlace : ByteArray := prog_6_method_10_code
def yX4_tellPlace : MethodName := ⟨RX4, "tellPlace", "(II)I"⟩
abbrev cX4_seekPlace : ByteArray := prog_6_method_11_code
def yX4_seekPlace : MethodName := ⟨RX4, "seekPlace", "(II)I"⟩
abbrev cX4_passesOwnHeads : ByteArray := prog_6_method_12_code
def yX4_passesOwnHeads : MethodName := ⟨RX4, "passesOwnHeads", "(IIJ)I"⟩
abbrev cX4_mergePlace : ByteArray := prog_6_method_13_code
def yX4_mergePlace : MethodName := ⟨RX4, "mergePlace", "(II)I"⟩
abbrev cX4_tellHead : ByteArray := prog_6_method_14_code
def yX4_tellHead : MethodName := ⟨RX4, "tellHead", "(II)I"⟩
abbrev cX4_tellNumber : ByteArray := prog_6_method_15_code
def yX4_tellNumber : MethodName := ⟨RX4, "tellNumber", "(J)I"⟩
abbrev cX4_combine : ByteArray := prog_6_method_16_code
def yX4_combine : MethodName := ⟨RX4, "combine", "(IJJ)I"⟩
abbrev cX4_passes : ByteArray := prog_6_method_17_code
def yX4_passes : MethodName := ⟨RX4, "passes", "(IJI)I"⟩
abbrev cX4_addUp : ByteArray := prog_6_method_18_code
def yX4_addUp : MethodName := ⟨RX4, "addUp", "(II)I"⟩
abbrev cX4_placeOf : ByteArray := prog_6_method_19_code
def yX4_placeOf : MethodName := ⟨RX4, "placeOf", "(IJI)I"⟩
abbrev cX4_firstUnlike : ByteArray := prog_6_method_20_code
def yX4_firstUnlike : MethodName := ⟨RX4, "firstUnlike", "(III)I"⟩
abbrev cX4_rising : ByteArray := prog_6_method_21_code
def yX4_rising : MethodName := ⟨RX4, "rising", "(I)I"⟩
abbrev cX4_gather : ByteArray := prog_6_method_22_code
def yX4_gather : MethodName := ⟨RX4, "gather", "(II[J)I"⟩
def RX5 : String := "LateRows$Texts"
def TX5 : u_T := fun k => match k with
  | 0 => ("LateRows$Texts", "parts", "[I", true)
  | 1 => ("LateRows$Texts", "kinds", "[I", true)
  | 2 => ("LateRows$Texts", "ops", "[I", true)
  | 3 => ("LateRows$Texts", "numbers", "[I", true)
  | 4 => ("LateRows$Texts", "steps", "[I", true)
  | 5 => ("LateRows$Texts", "sizes", "[I", true)
  | 6 => ("LateRows$Texts", "amounts", "[I", true)
  | _ => ("LateRows$Texts", "entries", "[J", true)
def tyX5 : Nat → FieldType := fun k => match k with
  | 0 => .array .int
  | 1 => .array .int
  | 2 => .array .int
  | 3 => .array .int
  | 4 => .array .int
  | 5 => .array .int
  | 6 => .array .int
  | _ => .array .long
abbrev wsX50 : List Cond := u_ws RX5 TX5 8
theorem nmX5 : ∀ a, a < 8 → ∀ b, b < 8 → a ≠ b → (TX5 a).2.1 ≠ (TX5 b).2.1 := by decide +kernel
theorem tyX5_ok : ∀ k, k < 8 → parseFieldDescriptor (TX5 k).2.2.1 = some (tyX5 k) := by decide +kernel
abbrev cX5_init : ByteArray := prog_7_method_1_code
def yX5_init : MethodName := ⟨RX5, "<init>", "(I)V"⟩
abbrev cX5_clearPart : ByteArray := prog_7_method_2_code
def yX5_clearPart : MethodName := ⟨RX5, "clearPart", "(II)V"⟩
abbrev cX5_close : ByteArray := prog_7_method_3_code
def yX5_close : MethodName := ⟨RX5, "close", "(II)V"⟩
abbrev cX5_firstRow : ByteArray := prog_7_method_4_code
def yX5_firstRow : MethodName := ⟨RX5, "firstRow", "(I)I"⟩
abbrev cX5_secondRow : ByteArray := prog_7_method_5_code
def yX5_secondRow : MethodName := ⟨RX5, "secondRow", "(I)I"⟩
abbrev cX5_filledStreams : ByteArray := prog_7_method_6_code
def yX5_filledStreams : MethodName := ⟨RX5, "filledStreams", "()I"⟩
abbrev cX5_allParts : ByteArray := prog_7_method_7_code
def yX5_allParts : MethodName := ⟨RX5, "allParts", "()I"⟩
abbrev cX5_takeStream : ByteArray := prog_7_method_8_code
def yX5_takeStream : MethodName := ⟨RX5, "takeStream", "(LLateRows$Texts;II)V"⟩
abbrev cX5_takeAll : ByteArray := prog_7_method_9_code
def yX5_takeAll : MethodName := ⟨RX5, "takeAll", "(LLateRows$Texts;)V"⟩
abbrev cX5_takeParts : ByteArray := prog_7_method_10_code
def yX5_takeParts : MethodName := ⟨RX5, "takeParts", "(LLateRows$Texts;III)V"⟩
def RX6 : String := "LateRows$Told"
def TX6 : u_T := fun k => match k with
  | 0 => ("LateRows$Told", "places", "[I", true)
  | 1 => ("LateRows$Told", "heads", "[I", true)
  | 2 => ("LateRows$Told", "goings", "[I", true)
  | 3 => ("LateRows$Told", "telling", "[Z", true)
  | 4 => ("LateRows$Told", "nexts", "[I", true)
  | 5 => ("LateRows$Told", "seconds", "[I", true)
  | 6 => ("LateRows$Told", "marks", "[B", true)
  | 7 => ("LateRows$Told", "numbers", "[J", true)
  | 8 => ("LateRows$Told", "kept", "[B", true)
  | 9 => ("LateRows$Told", "met", "[Z", true)
  | 10 => ("LateRows$Told", "meetings", "[I", true)
  | _ => ("LateRows$Told", "meetingsMade", "I", false)
def tyX6 : Nat → FieldType := fun k => match k with
  | 0 => .array .int
  | 1 => .array .int
  | 2 => .array .int
  | 3 => .array .boolean
  | 4 => .array .int
  | 5 => .array .int
  | 6 => .array .byte
  | 7 => .array .long
  | 8 => .array .byte
  | 9 => .array .boolean
  | 10 => .array .int
  | _ => .int
abbrev wsX60 : List Cond := u_ws RX6 TX6 12
theorem nmX6 : ∀ a, a < 12 → ∀ b, b < 12 → a ≠ b → (TX6 a).2.1 ≠ (TX6 b).2.1 := by decide +kernel
theorem tyX6_ok : ∀ k, k < 12 → parseFieldDescriptor (TX6 k).2.2.1 = some (tyX6 k) := by decide +kernel
abbrev cX6_init : ByteArray := prog_8_method_1_code
def yX6_init : MethodName := ⟨RX6, "<init>", "(I)V"⟩
abbrev cX6_meet : ByteArray := prog_8_method_2_code
def yX6_meet : MethodName := ⟨RX6, "meet", "(I)V"⟩
abbrev cX6_untell : ByteArray := prog_8_method_3_code
def yX6_untell : MethodName := ⟨RX6, "untell", "()V"⟩
abbrev cX6_untellPart : ByteArray := prog_8_method_4_code
def yX6_untellPart : MethodName := ⟨RX6, "untellPart", "(I)V"⟩
abbrev cX6_takeAll : ByteArray := prog_8_method_5_code
def yX6_takeAll : MethodName := ⟨RX6, "takeAll", "(LLateRows$Told;)V"⟩
abbrev cX6_takePart : ByteArray := prog_8_method_6_code
def yX6_takePart : MethodName := ⟨RX6, "takePart", "(LLateRows$Told;I)V"⟩
abbrev cX6_allPlaces : ByteArray := prog_8_method_7_code
def yX6_allPlaces : MethodName := ⟨RX6, "allPlaces", "()I"⟩
abbrev cX6_allHeads : ByteArray := prog_8_method_8_code
def yX6_allHeads : MethodName := ⟨RX6, "allHeads", "()I"⟩
def RX7 : String := "LateRows"
def TX7 : u_T := fun k => match k with
  | 0 => ("LateRows", "reader", "LLateRows$Reader;", true)
  | 1 => ("LateRows", "printer", "LLateRows$Printer;", true)
  | 2 => ("LateRows", "texts", "LLateRows$Texts;", true)
  | 3 => ("LateRows", "told", "LLateRows$Told;", true)
  | 4 => ("LateRows", "thought", "LLateRows$Told;", true)
  | 5 => ("LateRows", "teller", "LLateRows$Teller;", true)
  | 6 => ("LateRows", "sheets", "LLateRows$Sheets;", true)
  | 7 => ("LateRows", "filmed", "[J", true)
  | 8 => ("LateRows", "imageTexts", "LLateRows$Texts;", true)
  | 9 => ("LateRows", "imageTold", "LLateRows$Told;", true)
  | 10 => ("LateRows", "imageAllowed", "I", false)
  | 11 => ("LateRows", "imageKept", "Z", false)
  | 12 => ("LateRows", "allowed", "I", false)
  | _ => ("LateRows", "latestRuns", "I", false)
def tyX7 : Nat → FieldType := fun k => match k with
  | 0 => .object "LateRows$Reader"
  | 1 => .object "LateRows$Printer"
  | 2 => .object "LateRows$Texts"
  | 3 => .object "LateRows$Told"
  | 4 => .object "LateRows$Told"
  | 5 => .object "LateRows$Teller"
  | 6 => .object "LateRows$Sheets"
  | 7 => .array .long
  | 8 => .object "LateRows$Texts"
  | 9 => .object "LateRows$Told"
  | 10 => .int
  | 11 => .boolean
  | 12 => .int
  | _ => .int
abbrev wsX70 : List Cond := u_ws RX7 TX7 14
theorem nmX7 : ∀ a, a < 14 → ∀ b, b < 14 → a ≠ b → (TX7 a).2.1 ≠ (TX7 b).2.1 := by decide +kernel
theorem tyX7_ok : ∀ k, k < 14 → parseFieldDescriptor (TX7 k).2.2.1 = some (tyX7 k) := by decide +kernel
abbrev cX7_init : ByteArray := prog_1_method_1_code
def yX7_init : MethodName := ⟨RX7, "<init>", "()V"⟩
abbrev cX7_feed : ByteArray := prog_1_method_2_code
def yX7_feed : MethodName := ⟨RX7, "feed", "(I)I"⟩
abbrev cX7_text : ByteArray := prog_1_method_3_code
def yX7_text : MethodName := ⟨RX7, "text", "(I)I"⟩
abbrev cX7_empty : ByteArray := prog_1_method_4_code
def yX7_empty : MethodName := ⟨RX7, "empty", "(I)I"⟩
abbrev cX7_part : ByteArray := prog_1_method_5_code
def yX7_part : MethodName := ⟨RX7, "part", "(III)I"⟩
abbrev cX7_number : ByteArray := prog_1_method_6_code
def yX7_number : MethodName := ⟨RX7, "number", "(II)J"⟩
abbrev cX7_entry : ByteArray := prog_1_method_7_code
def yX7_entry : MethodName := ⟨RX7, "entry", "(III)J"⟩
abbrev cX7_twist : ByteArray := prog_1_method_8_code
def yX7_twist : MethodName := ⟨RX7, "twist", "(III)I"⟩
abbrev cX7_taken : ByteArray := prog_1_method_9_code
def yX7_taken : MethodName := ⟨RX7, "taken", "(III)I"⟩
abbrev cX7_print : ByteArray := prog_1_method_10_code
def yX7_print : MethodName := ⟨RX7, "print", "(II)I"⟩
abbrev cX7_there : ByteArray := prog_1_method_11_code
def yX7_there : MethodName := ⟨RX7, "there", "(II)I"⟩
abbrev cX7_is : ByteArray := prog_1_method_12_code
def yX7_is : MethodName := ⟨RX7, "is", "(II)I"⟩
abbrev cX7_head : ByteArray := prog_1_method_13_code
def yX7_head : MethodName := ⟨RX7, "head", "(II)J"⟩
abbrev cX7_need : ByteArray := prog_1_method_14_code
def yX7_need : MethodName := ⟨RX7, "need", "(II)I"⟩
abbrev cX7_limit : ByteArray := prog_1_method_15_code
def yX7_limit : MethodName := ⟨RX7, "limit", "(I)I"⟩
abbrev cX7_forget : ByteArray := prog_1_method_16_code
def yX7_forget : MethodName := ⟨RX7, "forget", "()I"⟩
abbrev cX7_sum : ByteArray := prog_1_method_17_code
def yX7_sum : MethodName := ⟨RX7, "sum", "(II)J"⟩
abbrev cX7_find : ByteArray := prog_1_method_18_code
def yX7_find : MethodName := ⟨RX7, "find", "(IJI)I"⟩
abbrev cX7_differ : ByteArray := prog_1_method_19_code
def yX7_differ : MethodName := ⟨RX7, "differ", "(III)I"⟩
abbrev cX7_rises : ByteArray := prog_1_method_20_code
def yX7_rises : MethodName := ⟨RX7, "rises", "(I)I"⟩
abbrev cX7_film : ByteArray := prog_1_method_21_code
def yX7_film : MethodName := ⟨RX7, "film", "(III)I"⟩
abbrev cX7_tells : ByteArray := prog_1_method_22_code
def yX7_tells : MethodName := ⟨RX7, "tells", "(III)I"⟩
abbrev cX7_image : ByteArray := prog_1_method_23_code
def yX7_image : MethodName := ⟨RX7, "image", "()I"⟩
abbrev cX7_back : ByteArray := prog_1_method_24_code
def yX7_back : MethodName := ⟨RX7, "back", "()I"⟩
abbrev cX7_count : ByteArray := prog_1_method_25_code
def yX7_count : MethodName := ⟨RX7, "count", "(I)I"⟩
abbrev cX7_sheet : ByteArray := prog_1_method_26_code
def yX7_sheet : MethodName := ⟨RX7, "sheet", "(III)I"⟩
abbrev cX7_put : ByteArray := prog_1_method_27_code
def yX7_put : MethodName := ⟨RX7, "put", "(IIJ)I"⟩
abbrev cX7_item : ByteArray := prog_1_method_28_code
def yX7_item : MethodName := ⟨RX7, "item", "(II)J"⟩
abbrev cX7_copy : ByteArray := prog_1_method_29_code
def yX7_copy : MethodName := ⟨RX7, "copy", "(IIIII)I"⟩
abbrev cX7_lay : ByteArray := prog_1_method_30_code
def yX7_lay : MethodName := ⟨RX7, "lay", "(IIIII)I"⟩
abbrev cX7_isStream : ByteArray := prog_1_method_31_code
def yX7_isStream : MethodName := ⟨RX7, "isStream", "(I)Z"⟩
abbrev cX7_isSheet : ByteArray := prog_1_method_32_code
def yX7_isSheet : MethodName := ⟨RX7, "isSheet", "(I)Z"⟩
abbrev cX7_isQuestion : ByteArray := prog_1_method_33_code
def yX7_isQuestion : MethodName := ⟨RX7, "isQuestion", "(I)Z"⟩
abbrev cX7_isEmpty : ByteArray := prog_1_method_34_code
def yX7_isEmpty : MethodName := ⟨RX7, "isEmpty", "(I)Z"⟩
abbrev cX7_hasPart : ByteArray := prog_1_method_35_code
def yX7_hasPart : MethodName := ⟨RX7, "hasPart", "(II)Z"⟩
abbrev cX7_refusedPlace : ByteArray := prog_1_method_36_code
def yX7_refusedPlace : MethodName := ⟨RX7, "refusedPlace", "(II)I"⟩
abbrev cX7_refusedRow : ByteArray := prog_1_method_37_code
def yX7_refusedRow : MethodName := ⟨RX7, "refusedRow", "(III)I"⟩
abbrev cX7_counted : ByteArray := prog_1_method_38_code
def yX7_counted : MethodName := ⟨RX7, "counted", "(I)I"⟩
abbrev cX7_tellingStreams : ByteArray := prog_1_method_39_code
def yX7_tellingStreams : MethodName := ⟨RX7, "tellingStreams", "(I)I"⟩
abbrev cX7_tellingNumbers : ByteArray := prog_1_method_40_code
def yX7_tellingNumbers : MethodName := ⟨RX7, "tellingNumbers", "(IIIZ)I"⟩
abbrev cX7_isToldBy : ByteArray := prog_1_method_41_code
def yX7_isToldBy : MethodName := ⟨RX7, "isToldBy", "(II)Z"⟩
def RX8 : String := "LateRowsModel"
def TX8 : u_T := fun k => match k with
  | 0 => ("LateRowsModel", "thrown", "I", false)
  | 1 => ("LateRowsModel", "manyOf", "[I", true)
  | 2 => ("LateRowsModel", "kinds", "[I", true)
  | 3 => ("LateRowsModel", "ops", "[I", true)
  | 4 => ("LateRowsModel", "sizes", "[I", true)
  | 5 => ("LateRowsModel", "numbers", "[J", true)
  | 6 => ("LateRowsModel", "seconds", "[J", true)
  | 7 => ("LateRowsModel", "entryMany", "[I", true)
  | 8 => ("LateRowsModel", "entries", "[J", true)
  | 9 => ("LateRowsModel", "limitNow", "I", false)
  | 10 => ("LateRowsModel", "there", "[I", true)
  | 11 => ("LateRowsModel", "goes", "[I", true)
  | 12 => ("LateRowsModel", "isTelling", "[Z", true)
  | 13 => ("LateRowsModel", "tookS", "[I", true)
  | 14 => ("LateRowsModel", "tookT", "[I", true)
  | 15 => ("LateRowsModel", "heads", "[I", true)
  | 16 => ("LateRowsModel", "worths", "[J", true)
  | 17 => ("LateRowsModel", "kept", "[I", true)
  | 18 => ("LateRowsModel", "tape", "[I", true)
  | 19 => ("LateRowsModel", "taped", "I", false)
  | 20 => ("LateRowsModel", "here", "I", false)
  | 21 => ("LateRowsModel", "token", "I", false)
  | 22 => ("LateRowsModel", "tokenAt", "I", false)
  | 23 => ("LateRowsModel", "tokenWorth", "I", false)
  | 24 => ("LateRowsModel", "bad", "Z", false)
  | 25 => ("LateRowsModel", "fault", "I", false)
  | 26 => ("LateRowsModel", "rows", "I", false)
  | 27 => ("LateRowsModel", "readKinds", "[I", true)
  | 28 => ("LateRowsModel", "readOps", "[I", true)
  | 29 => ("LateRowsModel", "readSizes", "[I", true)
  | 30 => ("LateRowsModel", "readNumbers", "[J", true)
  | 31 => ("LateRowsModel", "readSeconds", "[J", true)
  | 32 => ("LateRowsModel", "readMany", "[I", true)
  | 33 => ("LateRowsModel", "readEntries", "[J", true)
  | 34 => ("LateRowsModel", "out", "[I", true)
  | 35 => ("LateRowsModel", "outs", "I", false)
  | 36 => ("LateRowsModel", "runs", "I", false)
  | 37 => ("LateRowsModel", "runMost", "I", false)
  | 38 => ("LateRowsModel", "got", "J", false)
  | 39 => ("LateRowsModel", "runsLast", "I", false)
  | 40 => ("LateRowsModel", "thereWas", "[I", true)
  | 41 => ("LateRowsModel", "goesWas", "[I", true)
  | 42 => ("LateRowsModel", "tookSWas", "[I", true)
  | 43 => ("LateRowsModel", "tookTWas", "[I", true)
  | 44 => ("LateRowsModel", "headsWas", "[I", true)
  | 45 => ("LateRowsModel", "worthsWas", "[J", true)
  | 46 => ("LateRowsModel", "keptWas", "[I", true)
  | 47 => ("LateRowsModel", "filmed", "[J", true)
  | 48 => ("LateRowsModel", "manyKept", "[I", true)
  | 49 => ("LateRowsModel", "kindsKept", "[I", true)
  | 50 => ("LateRowsModel", "opsKept", "[I", true)
  | 51 => ("LateRowsModel", "sizesKept", "[I", true)
  | 52 => ("LateRowsModel", "numbersKept", "[J", true)
  | 53 => ("LateRowsModel", "secondsKept", "[J", true)
  | 54 => ("LateRowsModel", "entryManyKept", "[I", true)
  | 55 => ("LateRowsModel", "entriesKept", "[J", true)
  | 56 => ("LateRowsModel", "thereKept", "[I", true)
  | 57 => ("LateRowsModel", "goesKept", "[I", true)
  | 58 => ("LateRowsModel", "tookSKept", "[I", true)
  | 59 => ("LateRowsModel", "tookTKept", "[I", true)
  | 60 => ("LateRowsModel", "headsKept", "[I", true)
  | 61 => ("LateRowsModel", "worthsKept", "[J", true)
  | 62 => ("LateRowsModel", "keptKept", "[I", true)
  | 63 => ("LateRowsModel", "limitKept", "I", false)
  | 64 => ("LateRowsModel", "isImage", "Z", false)
  | 65 => ("LateRowsModel", "isThere", "[Z", true)
  | 66 => ("LateRowsModel", "sorts", "[I", true)
  | 67 => ("LateRowsModel", "sheetSize", "[I", true)
  | _ => ("LateRowsModel", "items", "[J", true)
def tyX8 : Nat → FieldType := fun k => match k with
  | 0 => .int
  | 1 => .array .int
  | 2 => .array .int
  | 3 => .array .int
  | 4 => .array .int
  | 5 => .array .long
  | 6 => .array .long
  | 7 => .array .int
  | 8 => .array .long
  | 9 => .int
  | 10 => .array .int
  | 11 => .array .int
  | 12 => .array .boolean
  | 13 => .array .int
  | 14 => .array .int
  | 15 => .array .int
  | 16 => .array .long
  | 17 => .array .int
  | 18 => .array .int
  | 19 => .int
  | 20 => .int
  | 21 => .int
  | 22 => .int
  | 23 => .int
  | 24 => .boolean
  | 25 => .int
  | 26 => .int
  | 27 => .array .int
  | 28 => .array .int
  | 29 => .array .int
  | 30 => .array .long
  | 31 => .array .long
  | 32 => .array .int
  | 33 => .array .long
  | 34 => .array .int
  | 35 => .int
  | 36 => .int
  | 37 => .int
  | 38 => .long
  | 39 => .int
  | 40 => .array .int
  | 41 => .array .int
  | 42 => .array .int
  | 43 => .array .int
  | 44 => .array .int
  | 45 => .array .long
  | 46 => .array .int
  | 47 => .array .long
  | 48 => .array .int
  | 49 => .array .int
  | 50 => .array .int
  | 51 => .array .int
  | 52 => .array .long
  | 53 => .array .long
  | 54 => .array .int
  | 55 => .array .long
  | 56 => .array .int
  | 57 => .array .int
  | 58 => .array .int
  | 59 => .array .int
  | 60 => .array .int
  | 61 => .array .long
  | 62 => .array .int
  | 63 => .int
  | 64 => .boolean
  | 65 => .array .boolean
  | 66 => .array .int
  | 67 => .array .int
  | _ => .array .long
abbrev wsX80 : List Cond := u_ws RX8 TX8 69
theorem nmX8 : ∀ a, a < 69 → ∀ b, b < 69 → a ≠ b → (TX8 a).2.1 ≠ (TX8 b).2.1 := by decide +kernel
theorem tyX8_ok : ∀ k, k < 69 → parseFieldDescriptor (TX8 k).2.2.1 = some (tyX8 k) := by decide +kernel
abbrev cX8_in : ByteArray := prog_10_method_2_code
def yX8_in : MethodName := ⟨RX8, "in", "(JJJ)Z"⟩
abbrev cX8_init : ByteArray := prog_10_method_3_code
def yX8_init : MethodName := ⟨RX8, "<init>", "()V"⟩
abbrev cX8_isStream : ByteArray := prog_10_method_4_code
def yX8_isStream : MethodName := ⟨RX8, "isStream", "(I)Z"⟩
abbrev cX8_untells : ByteArray := prog_10_method_5_code
def yX8_untells : MethodName := ⟨RX8, "untells", "()V"⟩
abbrev cX8_feed : ByteArray := prog_10_method_6_code
def yX8_feed : MethodName := ⟨RX8, "feed", "(I)I"⟩
abbrev cX8_byteAt : ByteArray := prog_10_method_7_code
def yX8_byteAt : MethodName := ⟨RX8, "byteAt", "(I)I"⟩
abbrev cX8_isSignByte : ByteArray := prog_10_method_8_code
def yX8_isSignByte : MethodName := ⟨RX8, "isSignByte", "(I)Z"⟩
abbrev cX8_next : ByteArray := prog_10_method_9_code
def yX8_next : MethodName := ⟨RX8, "next", "()V"⟩
abbrev cX8_fail : ByteArray := prog_10_method_10_code
def yX8_fail : MethodName := ⟨RX8, "fail", "()V"⟩
abbrev cX8_isLetter : ByteArray := prog_10_method_11_code
def yX8_isLetter : MethodName := ⟨RX8, "isLetter", "(II)Z"⟩
abbrev cX8_isWord : ByteArray := prog_10_method_12_code
def yX8_isWord : MethodName := ⟨RX8, "isWord", "(IIIII)Z"⟩
abbrev cX8_kindOf : ByteArray := prog_10_method_13_code
def yX8_kindOf : MethodName := ⟨RX8, "kindOf", "()I"⟩
abbrev cX8_isSign : ByteArray := prog_10_method_14_code
def yX8_isSign : MethodName := ⟨RX8, "isSign", "(I)Z"⟩
abbrev cX8_num : ByteArray := prog_10_method_15_code
def yX8_num : MethodName := ⟨RX8, "num", "()J"⟩
abbrev cX8_plain : ByteArray := prog_10_method_16_code
def yX8_plain : MethodName := ⟨RX8, "plain", "(II)J"⟩
abbrev cX8_op : ByteArray := prog_10_method_17_code
def yX8_op : MethodName := ⟨RX8, "op", "(Z)I"⟩
abbrev cX8_row : ByteArray := prog_10_method_18_code
def yX8_row : MethodName := ⟨RX8, "row", "()V"⟩
abbrev cX8_list : ByteArray := prog_10_method_19_code
def yX8_list : MethodName := ⟨RX8, "list", "(I)V"⟩
abbrev cX8_text : ByteArray := prog_10_method_20_code
def yX8_text : MethodName := ⟨RX8, "text", "(I)I"⟩
abbrev cX8_empty : ByteArray := prog_10_method_21_code
def yX8_empty : MethodName := ⟨RX8, "empty", "(I)I"⟩
abbrev cX8_isPart : ByteArray := prog_10_method_22_code
def yX8_isPart : MethodName := ⟨RX8, "isPart", "(II)Z"⟩
abbrev cX8_isNumbered : ByteArray := prog_10_method_23_code
def yX8_isNumbered : MethodName := ⟨RX8, "isNumbered", "(I)Z"⟩
abbrev cX8_toldHeads : ByteArray := prog_10_method_24_code
def yX8_toldHeads : MethodName := ⟨RX8, "toldHeads", "(I)I"⟩
abbrev cX8_part : ByteArray := prog_10_method_25_code
def yX8_part : MethodName := ⟨RX8, "part", "(III)I"⟩
abbrev cX8_number : ByteArray := prog_10_method_26_code
def yX8_number : MethodName := ⟨RX8, "number", "(II)J"⟩
abbrev cX8_entry : ByteArray := prog_10_method_27_code
def yX8_entry : MethodName := ⟨RX8, "entry", "(III)J"⟩
abbrev cX8_twist : ByteArray := prog_10_method_28_code
def yX8_twist : MethodName := ⟨RX8, "twist", "(III)I"⟩
abbrev cX8_groupOf : ByteArray := prog_10_method_29_code
def yX8_groupOf : MethodName := ⟨RX8, "groupOf", "(I)I"⟩
abbrev cX8_taken : ByteArray := prog_10_method_30_code
def yX8_taken : MethodName := ⟨RX8, "taken", "(III)I"⟩
abbrev cX8_puts : ByteArray := prog_10_method_31_code
def yX8_puts : MethodName := ⟨RX8, "puts", "(I)V"⟩
abbrev cX8_gap : ByteArray := prog_10_method_32_code
def yX8_gap : MethodName := ⟨RX8, "gap", "()V"⟩
abbrev cX8_word : ByteArray := prog_10_method_33_code
def yX8_word : MethodName := ⟨RX8, "word", "(IIIII)V"⟩
abbrev cX8_digits : ByteArray := prog_10_method_34_code
def yX8_digits : MethodName := ⟨RX8, "digits", "(J)V"⟩
abbrev cX8_kindWord : ByteArray := prog_10_method_35_code
def yX8_kindWord : MethodName := ⟨RX8, "kindWord", "(I)V"⟩
abbrev cX8_prints : ByteArray := prog_10_method_36_code
def yX8_prints : MethodName := ⟨RX8, "prints", "(I)V"⟩
abbrev cX8_print : ByteArray := prog_10_method_37_code
def yX8_print : MethodName := ⟨RX8, "print", "(II)I"⟩
abbrev cX8_followed : ByteArray := prog_10_method_38_code
def yX8_followed : MethodName := ⟨RX8, "followed", "(I)I"⟩
abbrev cX8_place : ByteArray := prog_10_method_39_code
def yX8_place : MethodName := ⟨RX8, "place", "(II)I"⟩
abbrev cX8_tellsPlace : ByteArray := prog_10_method_40_code
def yX8_tellsPlace : MethodName := ⟨RX8, "tellsPlace", "(II)I"⟩
abbrev cX8_other : ByteArray := prog_10_method_41_code
def yX8_other : MethodName := ⟨RX8, "other", "(I)I"⟩
abbrev cX8_passes : ByteArray := prog_10_method_42_code
def yX8_passes : MethodName := ⟨RX8, "passes", "(IJ)I"⟩
abbrev cX8_sieved : ByteArray := prog_10_method_43_code
def yX8_sieved : MethodName := ⟨RX8, "sieved", "(IIJ)I"⟩
abbrev cX8_keeps : ByteArray := prog_10_method_44_code
def yX8_keeps : MethodName := ⟨RX8, "keeps", "(II)I"⟩
abbrev cX8_merges : ByteArray := prog_10_method_45_code
def yX8_merges : MethodName := ⟨RX8, "merges", "(II)I"⟩
abbrev cX8_headAsked : ByteArray := prog_10_method_46_code
def yX8_headAsked : MethodName := ⟨RX8, "headAsked", "(II)I"⟩
abbrev cX8_tellsHead : ByteArray := prog_10_method_47_code
def yX8_tellsHead : MethodName := ⟨RX8, "tellsHead", "(II)I"⟩
abbrev cX8_joined : ByteArray := prog_10_method_48_code
def yX8_joined : MethodName := ⟨RX8, "joined", "(IJJ)I"⟩
abbrev cX8_cuts : ByteArray := prog_10_method_49_code
def yX8_cuts : MethodName := ⟨RX8, "cuts", "(II)I"⟩
abbrev cX8_begins : ByteArray := prog_10_method_50_code
def yX8_begins : MethodName := ⟨RX8, "begins", "(I)V"⟩
abbrev cX8_outcome : ByteArray := prog_10_method_51_code
def yX8_outcome : MethodName := ⟨RX8, "outcome", "(II)I"⟩
abbrev cX8_isFull : ByteArray := prog_10_method_52_code
def yX8_isFull : MethodName := ⟨RX8, "isFull", "(I)Z"⟩
abbrev cX8_there : ByteArray := prog_10_method_53_code
def yX8_there : MethodName := ⟨RX8, "there", "(II)I"⟩
abbrev cX8_is : ByteArray := prog_10_method_54_code
def yX8_is : MethodName := ⟨RX8, "is", "(II)I"⟩
abbrev cX8_head : ByteArray := prog_10_method_55_code
def yX8_head : MethodName := ⟨RX8, "head", "(II)J"⟩
abbrev cX8_limit : ByteArray := prog_10_method_56_code
def yX8_limit : MethodName := ⟨RX8, "limit", "(I)I"⟩
abbrev cX8_toldAll : ByteArray := prog_10_method_57_code
def yX8_toldAll : MethodName := ⟨RX8, "toldAll", "(I)I"⟩
abbrev cX8_forget : ByteArray := prog_10_method_58_code
def yX8_forget : MethodName := ⟨RX8, "forget", "()I"⟩
abbrev cX8_sum : ByteArray := prog_10_method_59_code
def yX8_sum : MethodName := ⟨RX8, "sum", "(II)J"⟩
abbrev cX8_find : ByteArray := prog_10_method_60_code
def yX8_find : MethodName := ⟨RX8, "find", "(IJI)I"⟩
abbrev cX8_differ : ByteArray := prog_10_method_61_code
def yX8_differ : MethodName := ⟨RX8, "differ", "(III)I"⟩
abbrev cX8_rises : ByteArray := prog_10_method_62_code
def yX8_rises : MethodName := ⟨RX8, "rises", "(I)I"⟩
abbrev cX8_laysAside : ByteArray := prog_10_method_63_code
def yX8_laysAside : MethodName := ⟨RX8, "laysAside", "()V"⟩
abbrev cX8_laysBack : ByteArray := prog_10_method_64_code
def yX8_laysBack : MethodName := ⟨RX8, "laysBack", "()V"⟩
abbrev cX8_need : ByteArray := prog_10_method_65_code
def yX8_need : MethodName := ⟨RX8, "need", "(II)I"⟩
abbrev cX8_isSo : ByteArray := prog_10_method_66_code
def yX8_isSo : MethodName := ⟨RX8, "isSo", "(IIZ)Z"⟩
abbrev cX8_film : ByteArray := prog_10_method_67_code
def yX8_film : MethodName := ⟨RX8, "film", "(III)I"⟩
abbrev cX8_tells : ByteArray := prog_10_method_68_code
def yX8_tells : MethodName := ⟨RX8, "tells", "(III)I"⟩
abbrev cX8_full : ByteArray := prog_10_method_69_code
def yX8_full : MethodName := ⟨RX8, "full", "()I"⟩
abbrev cX8_image : ByteArray := prog_10_method_70_code
def yX8_image : MethodName := ⟨RX8, "image", "()I"⟩
abbrev cX8_back : ByteArray := prog_10_method_71_code
def yX8_back : MethodName := ⟨RX8, "back", "()I"⟩
abbrev cX8_count : ByteArray := prog_10_method_72_code
def yX8_count : MethodName := ⟨RX8, "count", "(I)I"⟩
abbrev cX8_isSheet : ByteArray := prog_10_method_73_code
def yX8_isSheet : MethodName := ⟨RX8, "isSheet", "(I)Z"⟩
abbrev cX8_sheet : ByteArray := prog_10_method_74_code
def yX8_sheet : MethodName := ⟨RX8, "sheet", "(III)I"⟩
abbrev cX8_put : ByteArray := prog_10_method_75_code
def yX8_put : MethodName := ⟨RX8, "put", "(IIJ)I"⟩
abbrev cX8_item : ByteArray := prog_10_method_76_code
def yX8_item : MethodName := ⟨RX8, "item", "(II)J"⟩
abbrev cX8_copy : ByteArray := prog_10_method_77_code
def yX8_copy : MethodName := ⟨RX8, "copy", "(IIIII)I"⟩
abbrev cX8_lay : ByteArray := prog_10_method_78_code
def yX8_lay : MethodName := ⟨RX8, "lay", "(IIIII)I"⟩
def RJ11 : String := "java/lang/Character"
def TJ11 : u_T := fun k => match k with
  | _ => ("", "", "", false)
def tyJ11 : Nat → FieldType := fun k => match k with
  | _ => .int
abbrev wsJ110 : List Cond := u_ws RJ11 TJ11 0
theorem nmJ11 : ∀ a, a < 0 → ∀ b, b < 0 → a ≠ b → (TJ11 a).2.1 ≠ (TJ11 b).2.1 := by decide +kernel
theorem tyJ11_ok : ∀ k, k < 0 → parseFieldDescriptor (TJ11 k).2.2.1 = some (tyJ11 k) := by decide +kernel
abbrev cJ11_isValidCodePoint_9a6ad : ByteArray := prog_11_method_11_code
def yJ11_isValidCodePoint_9a6ad : MethodName := ⟨RJ11, "isValidCodePoint", "(I)Z"⟩
abbrev cJ11_highSurrogate_5068e : ByteArray := prog_11_method_28_code
def yJ11_highSurrogate_5068e : MethodName := ⟨RJ11, "highSurrogate", "(I)C"⟩
abbrev cJ11_lowSurrogate_5068e : ByteArray := prog_11_method_29_code
def yJ11_lowSurrogate_5068e : MethodName := ⟨RJ11, "lowSurrogate", "(I)C"⟩
def RJ9 : String := "java/lang/Math"
def TJ9 : u_T := fun k => match k with
  | _ => ("", "", "", false)
def tyJ9 : Nat → FieldType := fun k => match k with
  | _ => .int
abbrev wsJ90 : List Cond := u_ws RJ9 TJ9 0
theorem nmJ9 : ∀ a, a < 0 → ∀ b, b < 0 → a ≠ b → (TJ9 a).2.1 ≠ (TJ9 b).2.1 := by decide +kernel
theorem tyJ9_ok : ∀ k, k < 0 → parseFieldDescriptor (TJ9 k).2.2.1 = some (tyJ9 k) := by decide +kernel
abbrev cJ9_max_7cf53 : ByteArray := prog_12_method_65_code
def yJ9_max_7cf53 : MethodName := ⟨RJ9, "max", "(II)I"⟩
abbrev cJ9_min_7cf53 : ByteArray := prog_12_method_69_code
def yJ9_min_7cf53 : MethodName := ⟨RJ9, "min", "(II)I"⟩
def RJ0 : String := "java/lang/String"
def TJ0 : u_T := fun k => match k with
  | _ => ("", "", "", false)
def tyJ0 : Nat → FieldType := fun k => match k with
  | _ => .int
abbrev wsJ00 : List Cond := u_ws RJ0 TJ0 0
theorem nmJ0 : ∀ a, a < 0 → ∀ b, b < 0 → a ≠ b → (TJ0 a).2.1 ≠ (TJ0 b).2.1 := by decide +kernel
theorem tyJ0_ok : ∀ k, k < 0 → parseFieldDescriptor (TJ0 k).2.2.1 = some (tyJ0 k) := by decide +kernel
abbrev cJ0_length_8abf5 : ByteArray := prog_13_method_54_code
def yJ0_length_8abf5 : MethodName := ⟨RJ0, "length", "()I"⟩
abbrev cJ0_charAt_5068e : ByteArray := prog_13_method_56_code
def yJ0_charAt_5068e : MethodName := ⟨RJ0, "charAt", "(I)C"⟩
abbrev cJ0_indexOf_0f7a4 : ByteArray := prog_13_method_79_code
def yJ0_indexOf_0f7a4 : MethodName := ⟨RJ0, "indexOf", "(I)I"⟩
abbrev cJ0_indexOf_7cf53 : ByteArray := prog_13_method_80_code
def yJ0_indexOf_7cf53 : MethodName := ⟨RJ0, "indexOf", "(II)I"⟩
abbrev cJ0_coder_7d493 : ByteArray := prog_13_method_152_code
def yJ0_coder_7d493 : MethodName := ⟨RJ0, "coder", "()B"⟩
abbrev cJ0_isLatin1_aae02 : ByteArray := prog_13_method_154_code
def yJ0_isLatin1_aae02 : MethodName := ⟨RJ0, "isLatin1", "()Z"⟩
abbrev cJ0_checkIndex_df160 : ByteArray := prog_13_method_155_code
def yJ0_checkIndex_df160 : MethodName := ⟨RJ0, "checkIndex", "(II)V"⟩
abbrev cJ0_checkBoundsBeginEnd_23922 : ByteArray := prog_13_method_158_code
def yJ0_checkBoundsBeginEnd_23922 : MethodName := ⟨RJ0, "checkBoundsBeginEnd", "(III)V"⟩
def RJ1 : String := "java/lang/StringLatin1"
def TJ1 : u_T := fun k => match k with
  | _ => ("", "", "", false)
def tyJ1 : Nat → FieldType := fun k => match k with
  | _ => .int
abbrev wsJ10 : List Cond := u_ws RJ1 TJ1 0
theorem nmJ1 : ∀ a, a < 0 → ∀ b, b < 0 → a ≠ b → (TJ1 a).2.1 ≠ (TJ1 b).2.1 := by decide +kernel
theorem tyJ1_ok : ∀ k, k < 0 → parseFieldDescriptor (TJ1 k).2.2.1 = some (tyJ1 k) := by decide +kernel
abbrev cJ1_charAt_3b067 : ByteArray := prog_14_method_2_code
def yJ1_charAt_3b067 : MethodName := ⟨RJ1, "charAt", "([BI)C"⟩
abbrev cJ1_canEncode_9a6ad : ByteArray := prog_14_method_4_code
def yJ1_canEncode_9a6ad : MethodName := ⟨RJ1, "canEncode", "(I)Z"⟩
abbrev cJ1_indexOf_4cfef : ByteArray := prog_14_method_22_code
def yJ1_indexOf_4cfef : MethodName := ⟨RJ1, "indexOf", "([BIII)I"⟩
abbrev cJ1_indexOfChar_4cfef : ByteArray := prog_14_method_23_code
def yJ1_indexOfChar_4cfef : MethodName := ⟨RJ1, "indexOfChar", "([BIII)I"⟩
def RJ2 : String := "java/lang/StringUTF16"
def TJ2 : u_T := fun k => match k with
  | _ => ("", "", "", false)
def tyJ2 : Nat → FieldType := fun k => match k with
  | _ => .int
abbrev wsJ20 : List Cond := u_ws RJ2 TJ2 0
theorem nmJ2 : ∀ a, a < 0 → ∀ b, b < 0 → a ≠ b → (TJ2 a).2.1 ≠ (TJ2 b).2.1 := by decide +kernel
theorem tyJ2_ok : ∀ k, k < 0 → parseFieldDescriptor (TJ2 k).2.2.1 = some (tyJ2 k) := by decide +kernel
abbrev cJ2_getChar_3b067 : ByteArray := prog_15_method_5_code
def yJ2_getChar_3b067 : MethodName := ⟨RJ2, "getChar", "([BI)C"⟩
abbrev cJ2_length_9d52b : ByteArray := prog_15_method_6_code
def yJ2_length_9d52b : MethodName := ⟨RJ2, "length", "([B)I"⟩
abbrev cJ2_indexOf_4cfef : ByteArray := prog_15_method_40_code
def yJ2_indexOf_4cfef : MethodName := ⟨RJ2, "indexOf", "([BIII)I"⟩
abbrev cJ2_indexOfChar_4cfef : ByteArray := prog_15_method_47_code
def yJ2_indexOfChar_4cfef : MethodName := ⟨RJ2, "indexOfChar", "([BIII)I"⟩
abbrev cJ2_indexOfCharUnsafe_4cfef : ByteArray := prog_15_method_48_code
def yJ2_indexOfCharUnsafe_4cfef : MethodName := ⟨RJ2, "indexOfCharUnsafe", "([BIII)I"⟩
abbrev cJ2_indexOfSupplementary_4cfef : ByteArray := prog_15_method_49_code
def yJ2_indexOfSupplementary_4cfef : MethodName := ⟨RJ2, "indexOfSupplementary", "([BIII)I"⟩
abbrev cJ2_charAt_3b067 : ByteArray := prog_15_method_83_code
def yJ2_charAt_3b067 : MethodName := ⟨RJ2, "charAt", "([BI)C"⟩
abbrev cJ2_checkIndex_2214a : ByteArray := prog_15_method_91_code
def yJ2_checkIndex_2214a : MethodName := ⟨RJ2, "checkIndex", "(I[B)V"⟩
abbrev cJ2_checkBoundsBeginEnd_d044e : ByteArray := prog_15_method_93_code
def yJ2_checkBoundsBeginEnd_d044e : MethodName := ⟨RJ2, "checkBoundsBeginEnd", "(II[B)V"⟩
def RJ10 : String := "java/lang/System"
def TJ10 : u_T := fun k => match k with
  | _ => ("", "", "", false)
def tyJ10 : Nat → FieldType := fun k => match k with
  | _ => .int
abbrev wsJ100 : List Cond := u_ws RJ10 TJ10 0
theorem nmJ10 : ∀ a, a < 0 → ∀ b, b < 0 → a ≠ b → (TJ10 a).2.1 ≠ (TJ10 b).2.1 := by decide +kernel
theorem tyJ10_ok : ∀ k, k < 0 → parseFieldDescriptor (TJ10 k).2.2.1 = some (tyJ10 k) := by decide +kernel
def RJ3 : String := "jdk/internal/util/Preconditions"
def TJ3 : u_T := fun k => match k with
  | _ => ("", "", "", false)
def tyJ3 : Nat → FieldType := fun k => match k with
  | _ => .int
abbrev wsJ30 : List Cond := u_ws RJ3 TJ3 0
theorem nmJ3 : ∀ a, a < 0 → ∀ b, b < 0 → a ≠ b → (TJ3 a).2.1 ≠ (TJ3 b).2.1 := by decide +kernel
theorem tyJ3_ok : ∀ k, k < 0 → parseFieldDescriptor (TJ3 k).2.2.1 = some (tyJ3 k) := by decide +kernel
abbrev cJ3_checkIndex_8e157 : ByteArray := prog_17_method_11_code
def yJ3_checkIndex_8e157 : MethodName := ⟨RJ3, "checkIndex", "(IILjava/util/function/BiFunction;)I"⟩
abbrev cJ3_checkFromToIndex_8c36e : ByteArray := prog_17_method_12_code
def yJ3_checkFromToIndex_8c36e : MethodName := ⟨RJ3, "checkFromToIndex", "(IIILjava/util/function/BiFunction;)I"⟩
def RL : String := "LateRowsLaw"
abbrev cL_law : ByteArray := code
def yL_law : MethodName := ⟨RL, "law", "([I)Z"⟩
end
section
def xlen : Instr → Nat
  | .iload _ | .lload _ | .aload _ | .istore _ | .lstore _ | .astore _ | .bipush _ | .ldc _ | .newarray _ => 2
  | .sipush _ | .getfield _ | .putfield _ | .getstatic _ | .goto _ | .if_icmp _ _ | .ifCond _ _ | .if_acmp _ _ | .ifnull _ | .ifnonnull _ | .iinc _ _ | .invokevirtual _ | .invokespecial _ | .invokestatic _ | .new _ | .ldc_w _ | .ldc2_w _ => 3
  | _ => 1
def xsw : Instr → Bool
  | .tableswitch _ _ _ _ | .lookupswitch _ _ => true
  | _ => false
theorem xap {α : Type} {P : α → Prop} {a b : List α} (h1 : ∀ r ∈ a, P r) (h2 : ∀ r ∈ b, P r) : ∀ r ∈ a ++ b, P r := fun r hr => (List.mem_append.mp hr).elim (h1 r) (h2 r)
theorem x_lookg {α : Type} {L : List (Nat × α)} {i : Nat} {v : α} (h : L.lookup i = some v) : (i, v) ∈ L := by
  induction L with
  | nil => cases h
  | cons q r ih =>
    obtain ⟨j, w⟩ := q
    rw [List.lookup_cons] at h
    by_cases hj : (i == j) = true
    · rw [hj] at h
      cases h
      rw [beq_iff_eq.mp hj]
      exact List.mem_cons_self
    · have hj' : (i == j) = false := by simpa using hj
      rw [hj'] at h
      exact List.mem_cons_of_mem _ (ih h)
/-! instruction tables: rows of sixteen bytes of code -/
def xtab (t : List (List (Nat × Instr))) (pc : Nat) : Option Instr := match t[pc / 16]? with
  | some r => r.lookup pc
  | none => none
def xchk1 (cc : ByteArray) (r : List (Nat × Instr)) : Bool := r.all (fun q => match decode cc q.1 with
  | .ok (i, n) => decide (i = q.2) && (xsw i || n == xlen i)
  | _ => false)
theorem xchk1_ok {cc : ByteArray} {r : List (Nat × Instr)} (h : xchk1 cc r = true) {pc : Nat} {i : Instr} (hi : (pc, i) ∈ r) : ∃ n, decode cc pc = .ok (i, n) ∧ (xsw i = true ∨ n = xlen i) := by
  have h1 := List.all_eq_true.mp h _ hi
  dsimp only at h1
  split at h1
  · rename_i i' n hd
    simp only [Bool.and_eq_true, decide_eq_true_eq, Bool.or_eq_true, beq_iff_eq] at h1
    obtain ⟨rfl, h2⟩ := h1
    exact ⟨n, hd, h2⟩
  · cases h1
theorem xtab_ok {cc : ByteArray} {t : List (List (Nat × Instr))} (h : ∀ r ∈ t, xchk1 cc r = true) {pc : Nat} {i : Instr} (hi : xtab t pc = some i) : ∃ n, decode cc pc = .ok (i, n) ∧ (xsw i = true ∨ n = xlen i) := by
  unfold xtab at hi
  split at hi
  · rename_i r hr
    exact xchk1_ok (h r (List.mem_of_getElem? hr)) (x_lookg hi)
  · cases hi
def tL_law_0 : List (List (Nat × Instr)) := [[(0, .new 7), (3, .dup), (4, .invokespecial 9), (7, .astore_n 1), (8, .new 10), (11, .dup), (12, .invokespecial 12), (15, .astore_n 2)], [(16, .iconst 0), (17, .istore_n 3), (18, .iload_n 3), (19, .aload_n 0), (20, .arraylength), (21, .bipush 6), (23, .isub), (24, .if_icmp .gt 1208), (27, .aload_n 0), (28, .iload_n 3), (29, .iaload), (30, .bipush 31)], [(32, .iand), (33, .tableswitch 1193 0 28 #[131, 154, 177, 200, 243, 277, 321, 364, 407, 440, 473, 506, 540, 573, 596, 609, 643, 716, 759, 782, 825, 868, 881, 894, 917, 960, 1033, 1067, 1130])], [], [], [], [], []]
theorem uL_law_0 : ∀ r ∈ tL_law_0, xchk1 cL_law r = true := fun r hr => List.all_eq_true.mp (by decide +kernel : (tL_law_0.all (fun r => xchk1 cL_law r)) = true) r hr
def tL_law_1 : List (List (Nat × Instr)) := [[], [], [(164, .aload_n 1), (165, .aload_n 0), (166, .iload_n 3), (167, .iconst 1), (168, .iadd), (169, .iaload), (170, .invokevirtual 13), (173, .aload_n 2), (174, .aload_n 0), (175, .iload_n 3)], [(176, .iconst 1), (177, .iadd), (178, .iaload), (179, .invokevirtual 17), (182, .if_icmp .eq 1044), (185, .iconst 0), (186, .ireturn), (187, .aload_n 1), (188, .aload_n 0), (189, .iload_n 3), (190, .iconst 1), (191, .iadd)], [(192, .iaload), (193, .invokevirtual 18), (196, .aload_n 2), (197, .aload_n 0), (198, .iload_n 3), (199, .iconst 1), (200, .iadd), (201, .iaload), (202, .invokevirtual 21), (205, .if_icmp .eq 1021)], [(208, .iconst 0), (209, .ireturn), (210, .aload_n 1), (211, .aload_n 0), (212, .iload_n 3), (213, .iconst 1), (214, .iadd), (215, .iaload), (216, .invokevirtual 22), (219, .aload_n 2), (220, .aload_n 0), (221, .iload_n 3), (222, .iconst 1), (223, .iadd)], [(224, .iaload), (225, .invokevirtual 25), (228, .if_icmp .eq 998), (231, .iconst 0), (232, .ireturn), (233, .aload_n 1), (234, .aload_n 0), (235, .iload_n 3), (236, .iconst 1), (237, .iadd), (238, .iaload), (239, .aload_n 0)], [(240, .iload_n 3), (241, .iconst 2), (242, .iadd), (243, .iaload), (244, .aload_n 0), (245, .iload_n 3), (246, .iconst 3), (247, .iadd), (248, .iaload), (249, .invokevirtual 26), (252, .aload_n 2), (253, .aload_n 0), (254, .iload_n 3), (255, .iconst 1)]]
theorem uL_law_1 : ∀ r ∈ tL_law_1, xchk1 cL_law r = true := fun r hr => List.all_eq_true.mp (by decide +kernel : (tL_law_1.all (fun r => xchk1 cL_law r)) = true) r hr
def tL_law_2 : List (List (Nat × Instr)) := [[(256, .iadd), (257, .iaload), (258, .aload_n 0), (259, .iload_n 3), (260, .iconst 2), (261, .iadd), (262, .iaload), (263, .aload_n 0), (264, .iload_n 3), (265, .iconst 3), (266, .iadd), (267, .iaload), (268, .invokevirtual 30), (271, .if_icmp .eq 955)], [(274, .iconst 0), (275, .ireturn), (276, .aload_n 1), (277, .aload_n 0), (278, .iload_n 3), (279, .iconst 1), (280, .iadd), (281, .iaload), (282, .aload_n 0), (283, .iload_n 3), (284, .iconst 2), (285, .iadd), (286, .iaload), (287, .invokevirtual 31)], [(290, .aload_n 2), (291, .aload_n 0), (292, .iload_n 3), (293, .iconst 1), (294, .iadd), (295, .iaload), (296, .aload_n 0), (297, .iload_n 3), (298, .iconst 2), (299, .iadd), (300, .iaload), (301, .invokevirtual 35)], [(304, .lcmp), (305, .ifCond .eq 921), (308, .iconst 0), (309, .ireturn), (310, .aload_n 1), (311, .aload_n 0), (312, .iload_n 3), (313, .iconst 1), (314, .iadd), (315, .iaload), (316, .aload_n 0), (317, .iload_n 3), (318, .iconst 2), (319, .iadd)], [(320, .iaload), (321, .aload_n 0), (322, .iload_n 3), (323, .iconst 3), (324, .iadd), (325, .iaload), (326, .invokevirtual 36), (329, .aload_n 2), (330, .aload_n 0), (331, .iload_n 3), (332, .iconst 1), (333, .iadd), (334, .iaload), (335, .aload_n 0)], [(336, .iload_n 3), (337, .iconst 2), (338, .iadd), (339, .iaload), (340, .aload_n 0), (341, .iload_n 3), (342, .iconst 3), (343, .iadd), (344, .iaload), (345, .invokevirtual 40), (348, .lcmp), (349, .ifCond .eq 877)], [(352, .iconst 0), (353, .ireturn), (354, .aload_n 1), (355, .aload_n 0), (356, .iload_n 3), (357, .iconst 1), (358, .iadd), (359, .iaload), (360, .aload_n 0), (361, .iload_n 3), (362, .iconst 2), (363, .iadd), (364, .iaload), (365, .aload_n 0), (366, .iload_n 3), (367, .iconst 3)], [(368, .iadd), (369, .iaload), (370, .invokevirtual 41), (373, .aload_n 2), (374, .aload_n 0), (375, .iload_n 3), (376, .iconst 1), (377, .iadd), (378, .iaload), (379, .aload_n 0), (380, .iload_n 3), (381, .iconst 2), (382, .iadd), (383, .iaload)]]
theorem uL_law_2 : ∀ r ∈ tL_law_2, xchk1 cL_law r = true := fun r hr => List.all_eq_true.mp (by decide +kernel : (tL_law_2.all (fun r => xchk1 cL_law r)) = true) r hr
def tL_law_3 : List (List (Nat × Instr)) := [[(384, .aload_n 0), (385, .iload_n 3), (386, .iconst 3), (387, .iadd), (388, .iaload), (389, .invokevirtual 44), (392, .if_icmp .eq 834), (395, .iconst 0), (396, .ireturn), (397, .aload_n 1), (398, .aload_n 0), (399, .iload_n 3)], [(400, .iconst 1), (401, .iadd), (402, .iaload), (403, .aload_n 0), (404, .iload_n 3), (405, .iconst 2), (406, .iadd), (407, .iaload), (408, .aload_n 0), (409, .iload_n 3), (410, .iconst 3), (411, .iadd), (412, .iaload), (413, .invokevirtual 45)], [(416, .aload_n 2), (417, .aload_n 0), (418, .iload_n 3), (419, .iconst 1), (420, .iadd), (421, .iaload), (422, .aload_n 0), (423, .iload_n 3), (424, .iconst 2), (425, .iadd), (426, .iaload), (427, .aload_n 0), (428, .iload_n 3), (429, .iconst 3), (430, .iadd), (431, .iaload)], [(432, .invokevirtual 48), (435, .if_icmp .eq 791), (438, .iconst 0), (439, .ireturn), (440, .aload_n 1), (441, .aload_n 0), (442, .iload_n 3), (443, .iconst 1), (444, .iadd), (445, .iaload), (446, .aload_n 0), (447, .iload_n 3)], [(448, .iconst 2), (449, .iadd), (450, .iaload), (451, .invokevirtual 49), (454, .aload_n 2), (455, .aload_n 0), (456, .iload_n 3), (457, .iconst 1), (458, .iadd), (459, .iaload), (460, .aload_n 0), (461, .iload_n 3), (462, .iconst 2), (463, .iadd)], [(464, .iaload), (465, .invokevirtual 53), (468, .if_icmp .eq 758), (471, .iconst 0), (472, .ireturn), (473, .aload_n 1), (474, .aload_n 0), (475, .iload_n 3), (476, .iconst 1), (477, .iadd), (478, .iaload), (479, .aload_n 0)], [(480, .iload_n 3), (481, .iconst 2), (482, .iadd), (483, .iaload), (484, .invokevirtual 54), (487, .aload_n 2), (488, .aload_n 0), (489, .iload_n 3), (490, .iconst 1), (491, .iadd), (492, .iaload), (493, .aload_n 0), (494, .iload_n 3), (495, .iconst 2)], [(496, .iadd), (497, .iaload), (498, .invokevirtual 57), (501, .if_icmp .eq 725), (504, .iconst 0), (505, .ireturn), (506, .aload_n 1), (507, .aload_n 0), (508, .iload_n 3), (509, .iconst 1), (510, .iadd), (511, .iaload)]]
theorem uL_law_3 : ∀ r ∈ tL_law_3, xchk1 cL_law r = true := fun r hr => List.all_eq_true.mp (by decide +kernel : (tL_law_3.all (fun r => xchk1 cL_law r)) = true) r hr
def tL_law_4 : List (List (Nat × Instr)) := [[(512, .aload_n 0), (513, .iload_n 3), (514, .iconst 2), (515, .iadd), (516, .iaload), (517, .invokevirtual 58), (520, .aload_n 2), (521, .aload_n 0), (522, .iload_n 3), (523, .iconst 1), (524, .iadd), (525, .iaload), (526, .aload_n 0), (527, .iload_n 3)], [(528, .iconst 2), (529, .iadd), (530, .iaload), (531, .invokevirtual 61), (534, .if_icmp .eq 692), (537, .iconst 0), (538, .ireturn), (539, .aload_n 1), (540, .aload_n 0), (541, .iload_n 3), (542, .iconst 1), (543, .iadd)], [(544, .iaload), (545, .aload_n 0), (546, .iload_n 3), (547, .iconst 2), (548, .iadd), (549, .iaload), (550, .invokevirtual 62), (553, .aload_n 2), (554, .aload_n 0), (555, .iload_n 3), (556, .iconst 1), (557, .iadd), (558, .iaload), (559, .aload_n 0)], [(560, .iload_n 3), (561, .iconst 2), (562, .iadd), (563, .iaload), (564, .invokevirtual 65), (567, .lcmp), (568, .ifCond .eq 658), (571, .iconst 0), (572, .ireturn), (573, .aload_n 1), (574, .aload_n 0), (575, .iload_n 3)], [(576, .iconst 1), (577, .iadd), (578, .iaload), (579, .aload_n 0), (580, .iload_n 3), (581, .iconst 2), (582, .iadd), (583, .iaload), (584, .invokevirtual 66), (587, .aload_n 2), (588, .aload_n 0), (589, .iload_n 3), (590, .iconst 1), (591, .iadd)], [(592, .iaload), (593, .aload_n 0), (594, .iload_n 3), (595, .iconst 2), (596, .iadd), (597, .iaload), (598, .invokevirtual 69), (601, .if_icmp .eq 625), (604, .iconst 0), (605, .ireturn), (606, .aload_n 1), (607, .aload_n 0)], [(608, .iload_n 3), (609, .iconst 1), (610, .iadd), (611, .iaload), (612, .invokevirtual 70), (615, .aload_n 2), (616, .aload_n 0), (617, .iload_n 3), (618, .iconst 1), (619, .iadd), (620, .iaload), (621, .invokevirtual 73)], [(624, .if_icmp .eq 602), (627, .iconst 0), (628, .ireturn), (629, .aload_n 1), (630, .invokevirtual 74), (633, .aload_n 2), (634, .invokevirtual 78), (637, .if_icmp .eq 589)]]
theorem uL_law_4 : ∀ r ∈ tL_law_4, xchk1 cL_law r = true := fun r hr => List.all_eq_true.mp (by decide +kernel : (tL_law_4.all (fun r => xchk1 cL_law r)) = true) r hr
def tL_law_5 : List (List (Nat × Instr)) := [[(640, .iconst 0), (641, .ireturn), (642, .aload_n 1), (643, .aload_n 0), (644, .iload_n 3), (645, .iconst 1), (646, .iadd), (647, .iaload), (648, .aload_n 0), (649, .iload_n 3), (650, .iconst 2), (651, .iadd), (652, .iaload), (653, .invokevirtual 79)], [(656, .aload_n 2), (657, .aload_n 0), (658, .iload_n 3), (659, .iconst 1), (660, .iadd), (661, .iaload), (662, .aload_n 0), (663, .iload_n 3), (664, .iconst 2), (665, .iadd), (666, .iaload), (667, .invokevirtual 82), (670, .lcmp), (671, .ifCond .eq 555)], [(674, .iconst 0), (675, .ireturn), (676, .aload_n 1), (677, .aload_n 0), (678, .iload_n 3), (679, .iconst 1), (680, .iadd), (681, .iaload), (682, .aload_n 0), (683, .iload_n 3), (684, .iconst 2), (685, .iadd), (686, .iaload), (687, .i2l)], [(688, .bipush 32), (690, .lshl), (691, .aload_n 0), (692, .iload_n 3), (693, .iconst 3), (694, .iadd), (695, .iaload), (696, .i2l), (697, .ldc2_w 83), (700, .land), (701, .lor), (702, .aload_n 0), (703, .iload_n 3)], [(704, .iconst 4), (705, .iadd), (706, .iaload), (707, .invokevirtual 85), (710, .aload_n 2), (711, .aload_n 0), (712, .iload_n 3), (713, .iconst 1), (714, .iadd), (715, .iaload), (716, .aload_n 0), (717, .iload_n 3), (718, .iconst 2), (719, .iadd)], [(720, .iaload), (721, .i2l), (722, .bipush 32), (724, .lshl), (725, .aload_n 0), (726, .iload_n 3), (727, .iconst 3), (728, .iadd), (729, .iaload), (730, .i2l), (731, .ldc2_w 83), (734, .land), (735, .lor)], [(736, .aload_n 0), (737, .iload_n 3), (738, .iconst 4), (739, .iadd), (740, .iaload), (741, .invokevirtual 89), (744, .if_icmp .eq 482), (747, .iconst 0), (748, .ireturn), (749, .aload_n 1), (750, .aload_n 0), (751, .iload_n 3)], [(752, .iconst 1), (753, .iadd), (754, .iaload), (755, .aload_n 0), (756, .iload_n 3), (757, .iconst 2), (758, .iadd), (759, .iaload), (760, .aload_n 0), (761, .iload_n 3), (762, .iconst 3), (763, .iadd), (764, .iaload), (765, .invokevirtual 90)]]
theorem uL_law_5 : ∀ r ∈ tL_law_5, xchk1 cL_law r = true := fun r hr => List.all_eq_true.mp (by decide +kernel : (tL_law_5.all (fun r => xchk1 cL_law r)) = true) r hr
def tL_law_6 : List (List (Nat × Instr)) := [[(768, .aload_n 2), (769, .aload_n 0), (770, .iload_n 3), (771, .iconst 1), (772, .iadd), (773, .iaload), (774, .aload_n 0), (775, .iload_n 3), (776, .iconst 2), (777, .iadd), (778, .iaload), (779, .aload_n 0), (780, .iload_n 3), (781, .iconst 3), (782, .iadd), (783, .iaload)], [(784, .invokevirtual 93), (787, .if_icmp .eq 439), (790, .iconst 0), (791, .ireturn), (792, .aload_n 1), (793, .aload_n 0), (794, .iload_n 3), (795, .iconst 1), (796, .iadd), (797, .iaload), (798, .invokevirtual 94)], [(801, .aload_n 2), (802, .aload_n 0), (803, .iload_n 3), (804, .iconst 1), (805, .iadd), (806, .iaload), (807, .invokevirtual 97), (810, .if_icmp .eq 416), (813, .iconst 0), (814, .ireturn), (815, .aload_n 1)], [(816, .aload_n 0), (817, .iload_n 3), (818, .iconst 1), (819, .iadd), (820, .iaload), (821, .aload_n 0), (822, .iload_n 3), (823, .iconst 2), (824, .iadd), (825, .iaload), (826, .aload_n 0), (827, .iload_n 3), (828, .iconst 3), (829, .iadd), (830, .iaload), (831, .invokevirtual 98)], [(834, .aload_n 2), (835, .aload_n 0), (836, .iload_n 3), (837, .iconst 1), (838, .iadd), (839, .iaload), (840, .aload_n 0), (841, .iload_n 3), (842, .iconst 2), (843, .iadd), (844, .iaload), (845, .aload_n 0), (846, .iload_n 3), (847, .iconst 3)], [(848, .iadd), (849, .iaload), (850, .invokevirtual 101), (853, .if_icmp .eq 373), (856, .iconst 0), (857, .ireturn), (858, .aload_n 1), (859, .aload_n 0), (860, .iload_n 3), (861, .iconst 1), (862, .iadd), (863, .iaload)], [(864, .aload_n 0), (865, .iload_n 3), (866, .iconst 2), (867, .iadd), (868, .iaload), (869, .aload_n 0), (870, .iload_n 3), (871, .iconst 3), (872, .iadd), (873, .iaload), (874, .invokevirtual 102), (877, .aload_n 2), (878, .aload_n 0), (879, .iload_n 3)], [(880, .iconst 1), (881, .iadd), (882, .iaload), (883, .aload_n 0), (884, .iload_n 3), (885, .iconst 2), (886, .iadd), (887, .iaload), (888, .aload_n 0), (889, .iload_n 3), (890, .iconst 3), (891, .iadd), (892, .iaload), (893, .invokevirtual 105)]]
theorem uL_law_6 : ∀ r ∈ tL_law_6, xchk1 cL_law r = true := fun r hr => List.all_eq_true.mp (by decide +kernel : (tL_law_6.all (fun r => xchk1 cL_law r)) = true) r hr
def tL_law_7 : List (List (Nat × Instr)) := [[(896, .if_icmp .eq 330), (899, .iconst 0), (900, .ireturn), (901, .aload_n 1), (902, .invokevirtual 106), (905, .aload_n 2), (906, .invokevirtual 109), (909, .if_icmp .eq 317)], [(912, .iconst 0), (913, .ireturn), (914, .aload_n 1), (915, .invokevirtual 110), (918, .aload_n 2), (919, .invokevirtual 113), (922, .if_icmp .eq 304), (925, .iconst 0), (926, .ireturn), (927, .aload_n 1)], [(928, .aload_n 0), (929, .iload_n 3), (930, .iconst 1), (931, .iadd), (932, .iaload), (933, .invokevirtual 114), (936, .aload_n 2), (937, .aload_n 0), (938, .iload_n 3), (939, .iconst 1), (940, .iadd), (941, .iaload), (942, .invokevirtual 117)], [(945, .if_icmp .eq 281), (948, .iconst 0), (949, .ireturn), (950, .aload_n 1), (951, .aload_n 0), (952, .iload_n 3), (953, .iconst 1), (954, .iadd), (955, .iaload), (956, .aload_n 0), (957, .iload_n 3), (958, .iconst 2), (959, .iadd)], [(960, .iaload), (961, .aload_n 0), (962, .iload_n 3), (963, .iconst 3), (964, .iadd), (965, .iaload), (966, .invokevirtual 118), (969, .aload_n 2), (970, .aload_n 0), (971, .iload_n 3), (972, .iconst 1), (973, .iadd), (974, .iaload), (975, .aload_n 0)], [(976, .iload_n 3), (977, .iconst 2), (978, .iadd), (979, .iaload), (980, .aload_n 0), (981, .iload_n 3), (982, .iconst 3), (983, .iadd), (984, .iaload), (985, .invokevirtual 121), (988, .if_icmp .eq 238), (991, .iconst 0)], [(992, .ireturn), (993, .aload_n 1), (994, .aload_n 0), (995, .iload_n 3), (996, .iconst 1), (997, .iadd), (998, .iaload), (999, .aload_n 0), (1000, .iload_n 3), (1001, .iconst 2), (1002, .iadd), (1003, .iaload), (1004, .aload_n 0), (1005, .iload_n 3), (1006, .iconst 3), (1007, .iadd)], [(1008, .iaload), (1009, .i2l), (1010, .bipush 32), (1012, .lshl), (1013, .aload_n 0), (1014, .iload_n 3), (1015, .iconst 4), (1016, .iadd), (1017, .iaload), (1018, .i2l), (1019, .ldc2_w 83), (1022, .land), (1023, .lor)]]
theorem uL_law_7 : ∀ r ∈ tL_law_7, xchk1 cL_law r = true := fun r hr => List.all_eq_true.mp (by decide +kernel : (tL_law_7.all (fun r => xchk1 cL_law r)) = true) r hr
def tL_law_8 : List (List (Nat × Instr)) := [[(1024, .invokevirtual 122), (1027, .aload_n 2), (1028, .aload_n 0), (1029, .iload_n 3), (1030, .iconst 1), (1031, .iadd), (1032, .iaload), (1033, .aload_n 0), (1034, .iload_n 3), (1035, .iconst 2), (1036, .iadd), (1037, .iaload), (1038, .aload_n 0), (1039, .iload_n 3)], [(1040, .iconst 3), (1041, .iadd), (1042, .iaload), (1043, .i2l), (1044, .bipush 32), (1046, .lshl), (1047, .aload_n 0), (1048, .iload_n 3), (1049, .iconst 4), (1050, .iadd), (1051, .iaload), (1052, .i2l), (1053, .ldc2_w 83)], [(1056, .land), (1057, .lor), (1058, .invokevirtual 126), (1061, .if_icmp .eq 165), (1064, .iconst 0), (1065, .ireturn), (1066, .aload_n 1), (1067, .aload_n 0), (1068, .iload_n 3), (1069, .iconst 1), (1070, .iadd), (1071, .iaload)], [(1072, .aload_n 0), (1073, .iload_n 3), (1074, .iconst 2), (1075, .iadd), (1076, .iaload), (1077, .invokevirtual 127), (1080, .aload_n 2), (1081, .aload_n 0), (1082, .iload_n 3), (1083, .iconst 1), (1084, .iadd), (1085, .iaload), (1086, .aload_n 0), (1087, .iload_n 3)], [(1088, .iconst 2), (1089, .iadd), (1090, .iaload), (1091, .invokevirtual 130), (1094, .lcmp), (1095, .ifCond .eq 131), (1098, .iconst 0), (1099, .ireturn), (1100, .aload_n 1), (1101, .aload_n 0), (1102, .iload_n 3), (1103, .iconst 1)], [(1104, .iadd), (1105, .iaload), (1106, .aload_n 0), (1107, .iload_n 3), (1108, .iconst 2), (1109, .iadd), (1110, .iaload), (1111, .aload_n 0), (1112, .iload_n 3), (1113, .iconst 3), (1114, .iadd), (1115, .iaload), (1116, .aload_n 0), (1117, .iload_n 3), (1118, .iconst 4), (1119, .iadd)], [(1120, .iaload), (1121, .aload_n 0), (1122, .iload_n 3), (1123, .iconst 5), (1124, .iadd), (1125, .iaload), (1126, .invokevirtual 131), (1129, .aload_n 2), (1130, .aload_n 0), (1131, .iload_n 3), (1132, .iconst 1), (1133, .iadd), (1134, .iaload), (1135, .aload_n 0)], [(1136, .iload_n 3), (1137, .iconst 2), (1138, .iadd), (1139, .iaload), (1140, .aload_n 0), (1141, .iload_n 3), (1142, .iconst 3), (1143, .iadd), (1144, .iaload), (1145, .aload_n 0), (1146, .iload_n 3), (1147, .iconst 4), (1148, .iadd), (1149, .iaload), (1150, .aload_n 0), (1151, .iload_n 3)]]
theorem uL_law_8 : ∀ r ∈ tL_law_8, xchk1 cL_law r = true := fun r hr => List.all_eq_true.mp (by decide +kernel : (tL_law_8.all (fun r => xchk1 cL_law r)) = true) r hr
def tL_law_9 : List (List (Nat × Instr)) := [[(1152, .iconst 5), (1153, .iadd), (1154, .iaload), (1155, .invokevirtual 135), (1158, .if_icmp .eq 68), (1161, .iconst 0), (1162, .ireturn), (1163, .aload_n 1), (1164, .aload_n 0), (1165, .iload_n 3), (1166, .iconst 1), (1167, .iadd)], [(1168, .iaload), (1169, .aload_n 0), (1170, .iload_n 3), (1171, .iconst 2), (1172, .iadd), (1173, .iaload), (1174, .aload_n 0), (1175, .iload_n 3), (1176, .iconst 3), (1177, .iadd), (1178, .iaload), (1179, .aload_n 0), (1180, .iload_n 3), (1181, .iconst 4), (1182, .iadd), (1183, .iaload)], [(1184, .aload_n 0), (1185, .iload_n 3), (1186, .iconst 5), (1187, .iadd), (1188, .iaload), (1189, .invokevirtual 136), (1192, .aload_n 2), (1193, .aload_n 0), (1194, .iload_n 3), (1195, .iconst 1), (1196, .iadd), (1197, .iaload), (1198, .aload_n 0), (1199, .iload_n 3)], [(1200, .iconst 2), (1201, .iadd), (1202, .iaload), (1203, .aload_n 0), (1204, .iload_n 3), (1205, .iconst 3), (1206, .iadd), (1207, .iaload), (1208, .aload_n 0), (1209, .iload_n 3), (1210, .iconst 4), (1211, .iadd), (1212, .iaload), (1213, .aload_n 0), (1214, .iload_n 3), (1215, .iconst 5)], [(1216, .iadd), (1217, .iaload), (1218, .invokevirtual 139), (1221, .if_icmp .eq 5), (1224, .iconst 0), (1225, .ireturn), (1226, .iinc 3 6), (1229, .goto (-1211))], [(1232, .iconst 1), (1233, .ireturn)]]
theorem uL_law_9 : ∀ r ∈ tL_law_9, xchk1 cL_law r = true := fun r hr => List.all_eq_true.mp (by decide +kernel : (tL_law_9.all (fun r => xchk1 cL_law r)) = true) r hr
def tL_law : List (List (Nat × Instr)) := tL_law_0 ++ (tL_law_1 ++ (tL_law_2 ++ (tL_law_3 ++ (tL_law_4 ++ (tL_law_5 ++ (tL_law_6 ++ (tL_law_7 ++ (tL_law_8 ++ (tL_law_9)))))))))
theorem uL_law : ∀ r ∈ tL_law, xchk1 cL_law r = true := xap uL_law_0 (xap uL_law_1 (xap uL_law_2 (xap uL_law_3 (xap uL_law_4 (xap uL_law_5 (xap uL_law_6 (xap uL_law_7 (xap uL_law_8 (uL_law_9)))))))))
end
section
def tX0_allows_0 : List (List (Nat × Instr)) := [[(0, .iload_n 0), (1, .bipush 13), (3, .if_icmp .ne 20), (6, .iload_n 1), (7, .iconst 1), (8, .if_icmp .lt 13), (11, .iload_n 1), (12, .bipush 9), (14, .if_icmp .gt 7)], [(17, .iconst 1), (18, .goto 4), (21, .iconst 0), (22, .ireturn), (23, .iload_n 1), (24, .ifCond .ge 15), (27, .iload_n 0), (28, .bipush 8), (30, .if_icmp .eq 13)], [(33, .iload_n 0), (34, .bipush 9), (36, .if_icmp .eq 7), (39, .iconst 1), (40, .goto 4), (43, .iconst 0), (44, .ireturn)]]
theorem uX0_allows_0 : ∀ r ∈ tX0_allows_0, xchk1 cX0_allows r = true := fun r hr => List.all_eq_true.mp (by decide +kernel : (tX0_allows_0.all (fun r => xchk1 cX0_allows r)) = true) r hr
def tX0_allows : List (List (Nat × Instr)) := tX0_allows_0
theorem uX0_allows : ∀ r ∈ tX0_allows, xchk1 cX0_allows r = true := uX0_allows_0
def tX0_hasNumber_0 : List (List (Nat × Instr)) := [[(0, .iload_n 0), (1, .tableswitch 71 1 13 #[67, 71, 67, 67, 67, 71, 71, 69, 69, 71, 71, 69, 69])], [], [], [], [(68, .iconst 1), (69, .ireturn), (70, .iconst 1), (71, .ireturn), (72, .iconst 0), (73, .ireturn)]]
theorem uX0_hasNumber_0 : ∀ r ∈ tX0_hasNumber_0, xchk1 cX0_hasNumber r = true := fun r hr => List.all_eq_true.mp (by decide +kernel : (tX0_hasNumber_0.all (fun r => xchk1 cX0_hasNumber r)) = true) r hr
def tX0_hasNumber : List (List (Nat × Instr)) := tX0_hasNumber_0
theorem uX0_hasNumber : ∀ r ∈ tX0_hasNumber, xchk1 cX0_hasNumber r = true := uX0_hasNumber_0
def tX0_rows_0 : List (List (Nat × Instr)) := [[(0, .iload_n 0), (1, .ifCond .eq 13), (4, .iload_n 0), (5, .iconst 1), (6, .if_icmp .eq 8), (9, .iload_n 0), (10, .iconst 2), (11, .if_icmp .ne 5), (14, .iconst 0), (15, .ireturn)], [(16, .iload_n 0), (17, .bipush 6), (19, .if_icmp .eq 9), (22, .iload_n 0), (23, .bipush 7), (25, .if_icmp .ne 7), (28, .iconst 2), (29, .goto 4)], [(32, .iconst 1), (33, .ireturn)]]
theorem uX0_rows_0 : ∀ r ∈ tX0_rows_0, xchk1 cX0_rows r = true := fun r hr => List.all_eq_true.mp (by decide +kernel : (tX0_rows_0.all (fun r => xchk1 cX0_rows r)) = true) r hr
def tX0_rows : List (List (Nat × Instr)) := tX0_rows_0
theorem uX0_rows : ∀ r ∈ tX0_rows, xchk1 cX0_rows r = true := uX0_rows_0
def tX0_shape_0 : List (List (Nat × Instr)) := [[(0, .iload_n 0), (1, .tableswitch 100 1 13 #[67, 70, 73, 76, 79, 82, 100, 85, 88, 91, 100, 94, 97])], [], [], [], [(68, .ldc 37), (70, .areturn), (71, .ldc 39), (73, .areturn), (74, .ldc 41), (76, .areturn), (77, .ldc 43), (79, .areturn)], [(80, .ldc 43), (82, .areturn), (83, .ldc 45), (85, .areturn), (86, .ldc 47), (88, .areturn), (89, .ldc 47), (91, .areturn), (92, .ldc 45), (94, .areturn), (95, .ldc 49)], [(97, .areturn), (98, .ldc 51), (100, .areturn), (101, .ldc 35), (103, .areturn)]]
theorem uX0_shape_0 : ∀ r ∈ tX0_shape_0, xchk1 cX0_shape r = true := fun r hr => List.all_eq_true.mp (by decide +kernel : (tX0_shape_0.all (fun r => xchk1 cX0_shape r)) = true) r hr
def tX0_shape : List (List (Nat × Instr)) := tX0_shape_0
theorem uX0_shape : ∀ r ∈ tX0_shape, xchk1 cX0_shape r = true := uX0_shape_0
def tX0_word_0 : List (List (Nat × Instr)) := [[(0, .iload_n 0), (1, .tableswitch 106 1 13 #[67, 70, 73, 76, 79, 82, 85, 88, 91, 94, 97, 100, 103])], [], [], [], [(68, .ldc 9), (70, .areturn), (71, .ldc 11), (73, .areturn), (74, .ldc 13), (76, .areturn), (77, .ldc 15), (79, .areturn)], [(80, .ldc 17), (82, .areturn), (83, .ldc 19), (85, .areturn), (86, .ldc 21), (88, .areturn), (89, .ldc 23), (91, .areturn), (92, .ldc 25), (94, .areturn), (95, .ldc 27)], [(97, .areturn), (98, .ldc 29), (100, .areturn), (101, .ldc 31), (103, .areturn), (104, .ldc 33), (106, .areturn), (107, .ldc 35), (109, .areturn)]]
theorem uX0_word_0 : ∀ r ∈ tX0_word_0, xchk1 cX0_word r = true := fun r hr => List.all_eq_true.mp (by decide +kernel : (tX0_word_0.all (fun r => xchk1 cX0_word r)) = true) r hr
def tX0_word : List (List (Nat × Instr)) := tX0_word_0
theorem uX0_word : ∀ r ∈ tX0_word, xchk1 cX0_word r = true := uX0_word_0
def tX1_init_0 : List (List (Nat × Instr)) := [[(0, .aload_n 0), (1, .invokespecial 3), (4, .aload_n 0), (5, .sipush 1024), (8, .newarray .int), (10, .putfield 11), (13, .aload_n 0), (14, .iconst 0), (15, .putfield 15)], [(18, .return_)]]
theorem uX1_init_0 : ∀ r ∈ tX1_init_0, xchk1 cX1_init r = true := fun r hr => List.all_eq_true.mp (by decide +kernel : (tX1_init_0.all (fun r => xchk1 cX1_init r)) = true) r hr
def tX1_init : List (List (Nat × Instr)) := tX1_init_0
theorem uX1_init : ∀ r ∈ tX1_init, xchk1 cX1_init r = true := uX1_init_0
def tX1_writeBlank_0 : List (List (Nat × Instr)) := [[(0, .aload_n 0), (1, .getfield 15), (4, .ifCond .le 9), (7, .aload_n 0), (8, .bipush 32), (10, .invokevirtual 88), (13, .return_)]]
theorem uX1_writeBlank_0 : ∀ r ∈ tX1_writeBlank_0, xchk1 cX1_writeBlank r = true := fun r hr => List.all_eq_true.mp (by decide +kernel : (tX1_writeBlank_0.all (fun r => xchk1 cX1_writeBlank r)) = true) r hr
def tX1_writeBlank : List (List (Nat × Instr)) := tX1_writeBlank_0
theorem uX1_writeBlank : ∀ r ∈ tX1_writeBlank, xchk1 cX1_writeBlank r = true := uX1_writeBlank_0
def tX1_writeByte_0 : List (List (Nat × Instr)) := [[(0, .aload_n 0), (1, .getfield 15), (4, .sipush 1024), (7, .if_icmp .lt 4), (10, .return_), (11, .aload_n 0), (12, .getfield 11), (15, .aload_n 0)], [(16, .getfield 15), (19, .iload_n 1), (20, .iastore), (21, .aload_n 0), (22, .dup), (23, .getfield 15), (26, .iconst 1), (27, .iadd), (28, .putfield 15), (31, .return_)]]
theorem uX1_writeByte_0 : ∀ r ∈ tX1_writeByte_0, xchk1 cX1_writeByte r = true := fun r hr => List.all_eq_true.mp (by decide +kernel : (tX1_writeByte_0.all (fun r => xchk1 cX1_writeByte r)) = true) r hr
def tX1_writeByte : List (List (Nat × Instr)) := tX1_writeByte_0
theorem uX1_writeByte : ∀ r ∈ tX1_writeByte, xchk1 cX1_writeByte r = true := uX1_writeByte_0
def tX1_writeField_0 : List (List (Nat × Instr)) := [[(0, .iload_n 3), (1, .tableswitch 87 108 116 #[78, 87, 87, 51, 87, 87, 87, 64, 51])], [], [], [(52, .aload_n 0), (53, .aload_n 1), (54, .getfield 65), (57, .iload_n 2), (58, .iaload), (59, .invokevirtual 34), (62, .goto 37)], [(65, .aload_n 0), (66, .aload_n 1), (67, .getfield 68), (70, .iload_n 2), (71, .iaload), (72, .i2l), (73, .invokevirtual 71), (76, .goto 23), (79, .aload_n 0)], [(80, .aload_n 1), (81, .iload_n 2), (82, .invokevirtual 75), (85, .goto 14), (88, .aload_n 0), (89, .aload_n 1), (90, .getfield 31), (93, .iload_n 2), (94, .iaload), (95, .i2l)], [(96, .invokevirtual 71), (99, .return_)]]
theorem uX1_writeField_0 : ∀ r ∈ tX1_writeField_0, xchk1 cX1_writeField r = true := fun r hr => List.all_eq_true.mp (by decide +kernel : (tX1_writeField_0.all (fun r => xchk1 cX1_writeField r)) = true) r hr
def tX1_writeField : List (List (Nat × Instr)) := tX1_writeField_0
theorem uX1_writeField : ∀ r ∈ tX1_writeField, xchk1 cX1_writeField r = true := uX1_writeField_0
def tX1_writeNum_0 : List (List (Nat × Instr)) := [[(0, .aload_n 0), (1, .invokevirtual 85), (4, .lload_n 1), (5, .lconst 0), (6, .lcmp), (7, .ifCond .ge 13), (10, .aload_n 0), (11, .bipush 45), (13, .invokevirtual 88)], [(16, .aload_n 0), (17, .invokevirtual 85), (20, .lload_n 1), (21, .lconst 0), (22, .lcmp), (23, .ifCond .ge 7), (26, .lload_n 1), (27, .goto 5), (30, .lload_n 1), (31, .lneg)], [(32, .lstore_n 3), (33, .lconst 1), (34, .lstore 5), (36, .iconst 1), (37, .istore 7), (39, .iload 7), (41, .bipush 19), (43, .if_icmp .ge 28), (46, .lload_n 3), (47, .lload 5)], [(49, .ldiv), (50, .ldc2_w 91), (53, .lcmp), (54, .ifCond .gt 17), (57, .lload 5), (59, .ldc2_w 93), (62, .lmul), (63, .lstore 5)], [(65, .iinc 7 1), (68, .goto (-29)), (71, .lload 5), (73, .lconst 0), (74, .lcmp), (75, .ifCond .le 30), (78, .aload_n 0), (79, .bipush 48)], [(81, .lload_n 3), (82, .lload 5), (84, .ldiv), (85, .ldc2_w 93), (88, .lrem), (89, .l2i), (90, .isub), (91, .invokevirtual 88), (94, .lload 5)], [(96, .ldc2_w 93), (99, .ldiv), (100, .lstore 5), (102, .goto (-31)), (105, .return_)]]
theorem uX1_writeNum_0 : ∀ r ∈ tX1_writeNum_0, xchk1 cX1_writeNum r = true := fun r hr => List.all_eq_true.mp (by decide +kernel : (tX1_writeNum_0.all (fun r => xchk1 cX1_writeNum r)) = true) r hr
def tX1_writeNum : List (List (Nat × Instr)) := tX1_writeNum_0
theorem uX1_writeNum : ∀ r ∈ tX1_writeNum, xchk1 cX1_writeNum r = true := uX1_writeNum_0
def tX1_writeNums_0 : List (List (Nat × Instr)) := [[(0, .iconst 0), (1, .istore_n 3), (2, .iload_n 3), (3, .aload_n 1), (4, .getfield 78), (7, .iload_n 2), (8, .iaload), (9, .if_icmp .ge 34), (12, .iload_n 3), (13, .ifCond .le 9)], [(16, .aload_n 0), (17, .bipush 44), (19, .invokevirtual 34), (22, .aload_n 0), (23, .aload_n 1), (24, .getfield 81), (27, .iload_n 2), (28, .bipush 8), (30, .imul), (31, .iload_n 3)], [(32, .iadd), (33, .laload), (34, .invokevirtual 71), (37, .iinc 3 1), (40, .goto (-38)), (43, .return_)]]
theorem uX1_writeNums_0 : ∀ r ∈ tX1_writeNums_0, xchk1 cX1_writeNums r = true := fun r hr => List.all_eq_true.mp (by decide +kernel : (tX1_writeNums_0.all (fun r => xchk1 cX1_writeNums r)) = true) r hr
def tX1_writeNums : List (List (Nat × Instr)) := tX1_writeNums_0
theorem uX1_writeNums : ∀ r ∈ tX1_writeNums, xchk1 cX1_writeNums r = true := uX1_writeNums_0
def tX1_writePart_0 : List (List (Nat × Instr)) := [[(0, .aload_n 1), (1, .getfield 28), (4, .iload_n 2), (5, .iaload), (6, .istore_n 3), (7, .iload_n 3), (8, .ifCond .ne 17), (11, .aload_n 0), (12, .bipush 97), (14, .aload_n 1), (15, .getfield 31)], [(18, .iload_n 2), (19, .iaload), (20, .iadd), (21, .invokevirtual 34), (24, .return_), (25, .aload_n 0), (26, .iload_n 3), (27, .invokestatic 38), (30, .invokevirtual 44)], [(33, .iload_n 3), (34, .invokestatic 48), (37, .astore 4), (39, .iconst 0), (40, .istore 5), (42, .iload 5), (44, .aload 4), (46, .invokevirtual 51)], [(49, .if_icmp .ge 22), (52, .aload_n 0), (53, .aload_n 1), (54, .iload_n 2), (55, .aload 4), (57, .iload 5), (59, .invokevirtual 57), (62, .invokevirtual 61)], [(65, .iinc 5 1), (68, .goto (-26)), (71, .return_)]]
theorem uX1_writePart_0 : ∀ r ∈ tX1_writePart_0, xchk1 cX1_writePart r = true := fun r hr => List.all_eq_true.mp (by decide +kernel : (tX1_writePart_0.all (fun r => xchk1 cX1_writePart r)) = true) r hr
def tX1_writePart : List (List (Nat × Instr)) := tX1_writePart_0
theorem uX1_writePart : ∀ r ∈ tX1_writePart, xchk1 cX1_writePart r = true := uX1_writePart_0
def tX1_writeSign_0 : List (List (Nat × Instr)) := [[(0, .aload_n 0), (1, .invokevirtual 85), (4, .aload_n 0), (5, .iload_n 1), (6, .invokevirtual 88), (9, .return_)]]
theorem uX1_writeSign_0 : ∀ r ∈ tX1_writeSign_0, xchk1 cX1_writeSign r = true := fun r hr => List.all_eq_true.mp (by decide +kernel : (tX1_writeSign_0.all (fun r => xchk1 cX1_writeSign r)) = true) r hr
def tX1_writeSign : List (List (Nat × Instr)) := tX1_writeSign_0
theorem uX1_writeSign : ∀ r ∈ tX1_writeSign, xchk1 cX1_writeSign r = true := uX1_writeSign_0
def tX1_writeStream_0 : List (List (Nat × Instr)) := [[(0, .aload_n 0), (1, .iconst 0), (2, .putfield 15), (5, .iload_n 2), (6, .bipush 24), (8, .imul), (9, .istore_n 3), (10, .iload_n 3), (11, .istore 4), (13, .iload 4), (15, .iload_n 3)], [(16, .aload_n 1), (17, .getfield 19), (20, .iload_n 2), (21, .iaload), (22, .iadd), (23, .if_icmp .ge 16), (26, .aload_n 0), (27, .aload_n 1), (28, .iload 4), (30, .invokevirtual 24)], [(33, .iinc 4 1), (36, .goto (-23)), (39, .return_)]]
theorem uX1_writeStream_0 : ∀ r ∈ tX1_writeStream_0, xchk1 cX1_writeStream r = true := fun r hr => List.all_eq_true.mp (by decide +kernel : (tX1_writeStream_0.all (fun r => xchk1 cX1_writeStream r)) = true) r hr
def tX1_writeStream : List (List (Nat × Instr)) := tX1_writeStream_0
theorem uX1_writeStream : ∀ r ∈ tX1_writeStream, xchk1 cX1_writeStream r = true := uX1_writeStream_0
def tX1_writeWord_0 : List (List (Nat × Instr)) := [[(0, .aload_n 0), (1, .invokevirtual 85), (4, .iconst 0), (5, .istore_n 2), (6, .iload_n 2), (7, .aload_n 1), (8, .invokevirtual 51), (11, .if_icmp .ge 18), (14, .aload_n 0), (15, .aload_n 1)], [(16, .iload_n 2), (17, .invokevirtual 57), (20, .invokevirtual 88), (23, .iinc 2 1), (26, .goto (-20)), (29, .return_)]]
theorem uX1_writeWord_0 : ∀ r ∈ tX1_writeWord_0, xchk1 cX1_writeWord r = true := fun r hr => List.all_eq_true.mp (by decide +kernel : (tX1_writeWord_0.all (fun r => xchk1 cX1_writeWord r)) = true) r hr
def tX1_writeWord : List (List (Nat × Instr)) := tX1_writeWord_0
theorem uX1_writeWord : ∀ r ∈ tX1_writeWord, xchk1 cX1_writeWord r = true := uX1_writeWord_0
def tX2_addByte_0 : List (List (Nat × Instr)) := [[(0, .aload_n 0), (1, .getfield 20), (4, .bipush 120), (6, .if_icmp .lt 6), (9, .bipush (-4)), (11, .ireturn), (12, .aload_n 0), (13, .getfield 24)], [(16, .aload_n 0), (17, .getfield 20), (20, .iload_n 1), (21, .iastore), (22, .aload_n 0), (23, .dup), (24, .getfield 20), (27, .iconst 1), (28, .iadd), (29, .putfield 20)], [(32, .aload_n 0), (33, .getfield 20), (36, .ireturn)]]
theorem uX2_addByte_0 : ∀ r ∈ tX2_addByte_0, xchk1 cX2_addByte r = true := fun r hr => List.all_eq_true.mp (by decide +kernel : (tX2_addByte_0.all (fun r => xchk1 cX2_addByte r)) = true) r hr
def tX2_addByte : List (List (Nat × Instr)) := tX2_addByte_0
theorem uX2_addByte : ∀ r ∈ tX2_addByte, xchk1 cX2_addByte r = true := uX2_addByte_0
def tX2_init_0 : List (List (Nat × Instr)) := [[(0, .aload_n 0), (1, .invokespecial 3), (4, .aload_n 0), (5, .new 9), (8, .dup), (9, .iconst 1), (10, .invokespecial 11), (13, .putfield 14)], [(16, .aload_n 0), (17, .iconst 0), (18, .putfield 20), (21, .aload_n 0), (22, .bipush 120), (24, .newarray .int), (26, .putfield 24), (29, .aload_n 0), (30, .bipush 121)], [(32, .newarray .int), (34, .putfield 28), (37, .aload_n 0), (38, .bipush 121), (40, .newarray .int), (42, .putfield 31), (45, .aload_n 0), (46, .bipush 121)], [(48, .newarray .int), (50, .putfield 34), (53, .aload_n 0), (54, .iconst 0), (55, .putfield 37), (58, .aload_n 0), (59, .iconst (-1)), (60, .putfield 40), (63, .return_)]]
theorem uX2_init_0 : ∀ r ∈ tX2_init_0, xchk1 cX2_init r = true := fun r hr => List.all_eq_true.mp (by decide +kernel : (tX2_init_0.all (fun r => xchk1 cX2_init r)) = true) r hr
def tX2_init : List (List (Nat × Instr)) := tX2_init_0
theorem uX2_init : ∀ r ∈ tX2_init, xchk1 cX2_init r = true := uX2_init_0
def tX2_isSign_0 : List (List (Nat × Instr)) := [[(0, .aload_n 0), (1, .getfield 31), (4, .aload_n 0), (5, .getfield 37), (8, .iaload), (9, .iconst 3), (10, .if_icmp .ne 20), (13, .aload_n 0), (14, .getfield 34)], [(17, .aload_n 0), (18, .getfield 37), (21, .iaload), (22, .iload_n 1), (23, .if_icmp .ne 7), (26, .iconst 1), (27, .goto 4), (30, .iconst 0), (31, .ireturn)]]
theorem uX2_isSign_0 : ∀ r ∈ tX2_isSign_0, xchk1 cX2_isSign r = true := fun r hr => List.all_eq_true.mp (by decide +kernel : (tX2_isSign_0.all (fun r => xchk1 cX2_isSign r)) = true) r hr
def tX2_isSign : List (List (Nat × Instr)) := tX2_isSign_0
theorem uX2_isSign : ∀ r ∈ tX2_isSign, xchk1 cX2_isSign r = true := uX2_isSign_0
def tX2_isWord_0 : List (List (Nat × Instr)) := [[(0, .aload_n 1), (1, .invokevirtual 81), (4, .iload_n 3), (5, .iload_n 2), (6, .isub), (7, .if_icmp .eq 5), (10, .iconst 0), (11, .ireturn), (12, .iconst 0), (13, .istore 4), (15, .iload 4)], [(17, .aload_n 1), (18, .invokevirtual 81), (21, .if_icmp .ge 29), (24, .aload_n 0), (25, .getfield 24), (28, .iload_n 2), (29, .iload 4), (31, .iadd)], [(32, .iaload), (33, .aload_n 1), (34, .iload 4), (36, .invokevirtual 87), (39, .if_icmp .eq 5), (42, .iconst 0), (43, .ireturn), (44, .iinc 4 1), (47, .goto (-32))], [(50, .iconst 1), (51, .ireturn)]]
theorem uX2_isWord_0 : ∀ r ∈ tX2_isWord_0, xchk1 cX2_isWord r = true := fun r hr => List.all_eq_true.mp (by decide +kernel : (tX2_isWord_0.all (fun r => xchk1 cX2_isWord r)) = true) r hr
def tX2_isWord : List (List (Nat × Instr)) := tX2_isWord_0
theorem uX2_isWord : ∀ r ∈ tX2_isWord, xchk1 cX2_isWord r = true := uX2_isWord_0
def tX2_kindOfWord_0 : List (List (Nat × Instr)) := [[(0, .iload_n 2), (1, .iload_n 1), (2, .isub), (3, .iconst 1), (4, .if_icmp .ne 20), (7, .aload_n 0), (8, .getfield 24), (11, .iload_n 1), (12, .iaload), (13, .bipush 105), (15, .if_icmp .ge 7)], [(18, .iconst 0), (19, .goto 4), (22, .iconst (-1)), (23, .ireturn), (24, .iconst 1), (25, .istore_n 3), (26, .iload_n 3), (27, .bipush 14), (29, .if_icmp .ge 24)], [(32, .aload_n 0), (33, .iload_n 3), (34, .invokestatic 144), (37, .iload_n 1), (38, .iload_n 2), (39, .invokevirtual 147), (42, .ifCond .eq 5), (45, .iload_n 3), (46, .ireturn), (47, .iinc 3 1)], [(50, .goto (-24)), (53, .iconst (-1)), (54, .ireturn)]]
theorem uX2_kindOfWord_0 : ∀ r ∈ tX2_kindOfWord_0, xchk1 cX2_kindOfWord r = true := fun r hr => List.all_eq_true.mp (by decide +kernel : (tX2_kindOfWord_0.all (fun r => xchk1 cX2_kindOfWord r)) = true) r hr
def tX2_kindOfWord : List (List (Nat × Instr)) := tX2_kindOfWord_0
theorem uX2_kindOfWord : ∀ r ∈ tX2_kindOfWord, xchk1 cX2_kindOfWord r = true := uX2_kindOfWord_0
def tX2_meaningOf_0 : List (List (Nat × Instr)) := [[(0, .iload_n 1), (1, .iconst 1), (2, .if_icmp .ne 10), (5, .aload_n 0), (6, .iload_n 2), (7, .iload_n 3), (8, .invokevirtual 141), (11, .ireturn), (12, .iload_n 1), (13, .iconst 2), (14, .if_icmp .eq 10)], [(17, .aload_n 0), (18, .getfield 24), (21, .iload_n 2), (22, .iaload), (23, .ireturn), (24, .iconst 0), (25, .istore 4), (27, .iload_n 2), (28, .istore 5), (30, .iload 5)], [(32, .iload_n 3), (33, .if_icmp .ge 27), (36, .iload 4), (38, .bipush 10), (40, .imul), (41, .aload_n 0), (42, .getfield 24), (45, .iload 5), (47, .iaload)], [(48, .iadd), (49, .bipush 48), (51, .isub), (52, .istore 4), (54, .iinc 5 1), (57, .goto (-27)), (60, .iload 4), (62, .ireturn)]]
theorem uX2_meaningOf_0 : ∀ r ∈ tX2_meaningOf_0, xchk1 cX2_meaningOf r = true := fun r hr => List.all_eq_true.mp (by decide +kernel : (tX2_meaningOf_0.all (fun r => xchk1 cX2_meaningOf r)) = true) r hr
def tX2_meaningOf : List (List (Nat × Instr)) := tX2_meaningOf_0
theorem uX2_meaningOf : ∀ r ∈ tX2_meaningOf, xchk1 cX2_meaningOf r = true := uX2_meaningOf_0
def tX2_miss_0 : List (List (Nat × Instr)) := [[(0, .aload_n 0), (1, .getfield 40), (4, .iconst (-1)), (5, .if_icmp .ne 16), (8, .aload_n 0), (9, .aload_n 0), (10, .getfield 28), (13, .aload_n 0), (14, .getfield 37)], [(17, .iaload), (18, .putfield 40), (21, .return_)]]
theorem uX2_miss_0 : ∀ r ∈ tX2_miss_0, xchk1 cX2_miss r = true := fun r hr => List.all_eq_true.mp (by decide +kernel : (tX2_miss_0.all (fun r => xchk1 cX2_miss r)) = true) r hr
def tX2_miss : List (List (Nat × Instr)) := tX2_miss_0
theorem uX2_miss : ∀ r ∈ tX2_miss, xchk1 cX2_miss r = true := uX2_miss_0
def tX2_readField_0 : List (List (Nat × Instr)) := [[(0, .iload_n 2), (1, .tableswitch 194 99 116 #[175, 155, 194, 194, 194, 194, 194, 194, 194, 194, 194, 123, 87, 194, 194, 194, 139, 105])], [], [], [], [], [(88, .aload_n 0), (89, .getfield 14), (92, .getfield 95), (95, .iload_n 1)], [(96, .aload_n 0), (97, .ldc 98), (99, .invokevirtual 100), (102, .iastore), (103, .goto 97), (106, .aload_n 0), (107, .getfield 14), (110, .getfield 95)], [(113, .iload_n 1), (114, .aload_n 0), (115, .ldc 104), (117, .invokevirtual 100), (120, .iastore), (121, .goto 79), (124, .aload_n 0), (125, .getfield 14)]]
theorem uX2_readField_0 : ∀ r ∈ tX2_readField_0, xchk1 cX2_readField r = true := fun r hr => List.all_eq_true.mp (by decide +kernel : (tX2_readField_0.all (fun r => xchk1 cX2_readField r)) = true) r hr
def tX2_readField_1 : List (List (Nat × Instr)) := [[(128, .getfield 74), (131, .iload_n 1), (132, .aload_n 0), (133, .invokevirtual 106), (136, .iastore), (137, .goto 63), (140, .aload_n 0), (141, .getfield 14)], [(144, .getfield 109), (147, .iload_n 1), (148, .aload_n 0), (149, .invokevirtual 106), (152, .iastore), (153, .goto 47), (156, .aload_n 0), (157, .getfield 14)], [(160, .getfield 74), (163, .iload_n 1), (164, .aload_n 0), (165, .iconst 0), (166, .sipush 9999), (169, .invokevirtual 112), (172, .iastore), (173, .goto 27)], [(176, .aload_n 0), (177, .getfield 14), (180, .getfield 74), (183, .iload_n 1), (184, .aload_n 0), (185, .iconst 1), (186, .bipush 9), (188, .invokevirtual 112), (191, .iastore)], [(192, .goto 8), (195, .aload_n 0), (196, .iload_n 1), (197, .invokevirtual 115), (200, .return_)]]
theorem uX2_readField_1 : ∀ r ∈ tX2_readField_1, xchk1 cX2_readField r = true := fun r hr => List.all_eq_true.mp (by decide +kernel : (tX2_readField_1.all (fun r => xchk1 cX2_readField r)) = true) r hr
def tX2_readField : List (List (Nat × Instr)) := tX2_readField_0 ++ (tX2_readField_1)
theorem uX2_readField : ∀ r ∈ tX2_readField, xchk1 cX2_readField r = true := xap uX2_readField_0 (uX2_readField_1)
def tX2_readNum_0 : List (List (Nat × Instr)) := [[(0, .aload_n 0), (1, .bipush 45), (3, .invokevirtual 122), (6, .istore_n 1), (7, .iload_n 1), (8, .ifCond .eq 13), (11, .aload_n 0), (12, .dup), (13, .getfield 37)], [(16, .iconst 1), (17, .iadd), (18, .putfield 37), (21, .aload_n 0), (22, .iconst 0), (23, .sipush 9999), (26, .invokevirtual 112), (29, .istore_n 2), (30, .iload_n 1), (31, .ifCond .eq 8)], [(34, .iload_n 2), (35, .ineg), (36, .goto 4), (39, .iload_n 2), (40, .ireturn)]]
theorem uX2_readNum_0 : ∀ r ∈ tX2_readNum_0, xchk1 cX2_readNum r = true := fun r hr => List.all_eq_true.mp (by decide +kernel : (tX2_readNum_0.all (fun r => xchk1 cX2_readNum r)) = true) r hr
def tX2_readNum : List (List (Nat × Instr)) := tX2_readNum_0
theorem uX2_readNum : ∀ r ∈ tX2_readNum, xchk1 cX2_readNum r = true := uX2_readNum_0
def tX2_readNumber_0 : List (List (Nat × Instr)) := [[(0, .aload_n 0), (1, .getfield 34), (4, .aload_n 0), (5, .getfield 37), (8, .iaload), (9, .istore_n 3), (10, .aload_n 0), (11, .getfield 31), (14, .aload_n 0), (15, .getfield 37)], [(18, .iaload), (19, .iconst 2), (20, .if_icmp .ne 13), (23, .iload_n 3), (24, .iload_n 1), (25, .if_icmp .lt 8), (28, .iload_n 3), (29, .iload_n 2), (30, .if_icmp .le 9)], [(33, .aload_n 0), (34, .invokevirtual 58), (37, .iload_n 1), (38, .ireturn), (39, .aload_n 0), (40, .dup), (41, .getfield 37), (44, .iconst 1), (45, .iadd), (46, .putfield 37)], [(49, .iload_n 3), (50, .ireturn)]]
theorem uX2_readNumber_0 : ∀ r ∈ tX2_readNumber_0, xchk1 cX2_readNumber r = true := fun r hr => List.all_eq_true.mp (by decide +kernel : (tX2_readNumber_0.all (fun r => xchk1 cX2_readNumber r)) = true) r hr
def tX2_readNumber : List (List (Nat × Instr)) := tX2_readNumber_0
theorem uX2_readNumber : ∀ r ∈ tX2_readNumber, xchk1 cX2_readNumber r = true := uX2_readNumber_0
def tX2_readNums_0 : List (List (Nat × Instr)) := [[(0, .iconst 0), (1, .istore_n 2), (2, .iconst 1), (3, .istore_n 3), (4, .iload_n 3), (5, .ifCond .eq 69), (8, .iload_n 2), (9, .bipush 8), (11, .if_icmp .ge 63), (14, .aload_n 0), (15, .getfield 40)], [(18, .iconst (-1)), (19, .if_icmp .ne 55), (22, .aload_n 0), (23, .getfield 14), (26, .getfield 118), (29, .iload_n 1), (30, .bipush 8)], [(32, .imul), (33, .iload_n 2), (34, .iadd), (35, .aload_n 0), (36, .invokevirtual 106), (39, .i2l), (40, .lastore), (41, .iinc 2 1), (44, .aload_n 0), (45, .bipush 44), (47, .invokevirtual 122)], [(50, .istore_n 3), (51, .iload_n 3), (52, .ifCond .eq (-48)), (55, .iload_n 2), (56, .bipush 8), (58, .if_icmp .ge (-54)), (61, .aload_n 0), (62, .dup), (63, .getfield 37)], [(66, .iconst 1), (67, .iadd), (68, .putfield 37), (71, .goto (-67)), (74, .aload_n 0), (75, .getfield 14), (78, .getfield 126)], [(81, .iload_n 1), (82, .iload_n 2), (83, .iastore), (84, .iload_n 3), (85, .ifCond .eq 7), (88, .aload_n 0), (89, .invokevirtual 58), (92, .return_)]]
theorem uX2_readNums_0 : ∀ r ∈ tX2_readNums_0, xchk1 cX2_readNums r = true := fun r hr => List.all_eq_true.mp (by decide +kernel : (tX2_readNums_0.all (fun r => xchk1 cX2_readNums r)) = true) r hr
def tX2_readNums : List (List (Nat × Instr)) := tX2_readNums_0
theorem uX2_readNums : ∀ r ∈ tX2_readNums, xchk1 cX2_readNums r = true := uX2_readNums_0
def tX2_readPart_0 : List (List (Nat × Instr)) := [[(0, .aload_n 0), (1, .getfield 31), (4, .aload_n 0), (5, .getfield 37), (8, .iaload), (9, .iconst 1), (10, .if_icmp .ne 15), (13, .aload_n 0), (14, .getfield 34)], [(17, .aload_n 0), (18, .getfield 37), (21, .iaload), (22, .goto 4), (25, .iconst (-1)), (26, .istore_n 2), (27, .aload_n 0), (28, .getfield 14), (31, .iload_n 1)], [(32, .iload_n 2), (33, .iconst 0), (34, .invokestatic 65), (37, .invokevirtual 71), (40, .iload_n 2), (41, .ifCond .ge 8), (44, .aload_n 0), (45, .invokevirtual 58)], [(48, .return_), (49, .iload_n 2), (50, .ifCond .ne 29), (53, .aload_n 0), (54, .getfield 14), (57, .getfield 74), (60, .iload_n 1), (61, .aload_n 0), (62, .getfield 24)], [(65, .aload_n 0), (66, .getfield 28), (69, .aload_n 0), (70, .getfield 37), (73, .iaload), (74, .iaload), (75, .bipush 97), (77, .isub), (78, .iastore), (79, .aload_n 0)], [(80, .dup), (81, .getfield 37), (84, .iconst 1), (85, .iadd), (86, .putfield 37), (89, .iload_n 2), (90, .invokestatic 77), (93, .astore_n 3), (94, .iconst 0), (95, .istore 4)], [(97, .iload 4), (99, .aload_n 3), (100, .invokevirtual 81), (103, .if_icmp .ge 28), (106, .aload_n 0), (107, .getfield 40), (110, .iconst (-1)), (111, .if_icmp .ne 20)], [(114, .aload_n 0), (115, .iload_n 1), (116, .aload_n 3), (117, .iload 4), (119, .invokevirtual 87), (122, .invokevirtual 91), (125, .iinc 4 1)]]
theorem uX2_readPart_0 : ∀ r ∈ tX2_readPart_0, xchk1 cX2_readPart r = true := fun r hr => List.all_eq_true.mp (by decide +kernel : (tX2_readPart_0.all (fun r => xchk1 cX2_readPart r)) = true) r hr
def tX2_readPart_1 : List (List (Nat × Instr)) := [[(128, .goto (-31)), (131, .return_)]]
theorem uX2_readPart_1 : ∀ r ∈ tX2_readPart_1, xchk1 cX2_readPart r = true := fun r hr => List.all_eq_true.mp (by decide +kernel : (tX2_readPart_1.all (fun r => xchk1 cX2_readPart r)) = true) r hr
def tX2_readPart : List (List (Nat × Instr)) := tX2_readPart_0 ++ (tX2_readPart_1)
theorem uX2_readPart : ∀ r ∈ tX2_readPart, xchk1 cX2_readPart r = true := xap uX2_readPart_0 (uX2_readPart_1)
def tX2_readSign_0 : List (List (Nat × Instr)) := [[(0, .aload_n 0), (1, .getfield 34), (4, .aload_n 0), (5, .getfield 37), (8, .iaload), (9, .istore_n 2), (10, .aload_n 0), (11, .getfield 31), (14, .aload_n 0), (15, .getfield 37)], [(18, .iaload), (19, .iconst 3), (20, .if_icmp .ne 12), (23, .aload_n 1), (24, .iload_n 2), (25, .i2c), (26, .invokevirtual 129), (29, .ifCond .ge 9)], [(32, .aload_n 0), (33, .invokevirtual 58), (36, .iconst 0), (37, .ireturn), (38, .aload_n 0), (39, .dup), (40, .getfield 37), (43, .iconst 1), (44, .iadd), (45, .putfield 37)], [(48, .iload_n 2), (49, .ireturn)]]
theorem uX2_readSign_0 : ∀ r ∈ tX2_readSign_0, xchk1 cX2_readSign r = true := fun r hr => List.all_eq_true.mp (by decide +kernel : (tX2_readSign_0.all (fun r => xchk1 cX2_readSign r)) = true) r hr
def tX2_readSign : List (List (Nat × Instr)) := tX2_readSign_0
theorem uX2_readSign : ∀ r ∈ tX2_readSign, xchk1 cX2_readSign r = true := uX2_readSign_0
def tX2_readTape_0 : List (List (Nat × Instr)) := [[(0, .aload_n 0), (1, .invokevirtual 43), (4, .aload_n 0), (5, .iconst 0), (6, .putfield 37), (9, .aload_n 0), (10, .iconst (-1)), (11, .putfield 40), (14, .iconst 0), (15, .istore_n 1)], [(16, .iconst 1), (17, .istore_n 2), (18, .iload_n 1), (19, .bipush 24), (21, .if_icmp .ge 43), (24, .iload_n 2), (25, .ifCond .le 39), (28, .aload_n 0), (29, .getfield 40)], [(32, .iconst (-1)), (33, .if_icmp .ne 31), (36, .aload_n 0), (37, .iload_n 1), (38, .invokevirtual 46), (41, .iload_n 2), (42, .aload_n 0), (43, .getfield 14), (46, .getfield 49)], [(49, .iload_n 1), (50, .iaload), (51, .invokestatic 52), (54, .iconst 1), (55, .isub), (56, .iadd), (57, .istore_n 2), (58, .iinc 1 1), (61, .goto (-43))], [(64, .iload_n 2), (65, .ifCond .gt 15), (68, .aload_n 0), (69, .getfield 31), (72, .aload_n 0), (73, .getfield 37), (76, .iaload), (77, .ifCond .eq 7)], [(80, .aload_n 0), (81, .invokevirtual 58), (84, .aload_n 0), (85, .iconst 0), (86, .putfield 20), (89, .aload_n 0), (90, .getfield 40), (93, .iconst (-1)), (94, .if_icmp .eq 11)], [(97, .bipush (-100)), (99, .aload_n 0), (100, .getfield 40), (103, .isub), (104, .ireturn), (105, .aload_n 0), (106, .getfield 14), (109, .iconst 0), (110, .iload_n 1), (111, .invokevirtual 61)], [(114, .iload_n 1), (115, .ireturn)]]
theorem uX2_readTape_0 : ∀ r ∈ tX2_readTape_0, xchk1 cX2_readTape r = true := fun r hr => List.all_eq_true.mp (by decide +kernel : (tX2_readTape_0.all (fun r => xchk1 cX2_readTape r)) = true) r hr
def tX2_readTape : List (List (Nat × Instr)) := tX2_readTape_0
theorem uX2_readTape : ∀ r ∈ tX2_readTape, xchk1 cX2_readTape r = true := uX2_readTape_0
def tX2_sortOf_0 : List (List (Nat × Instr)) := [[(0, .iload_n 0), (1, .bipush 32), (3, .if_icmp .eq 9), (6, .iload_n 0), (7, .bipush 10), (9, .if_icmp .ne 5), (12, .iconst 5), (13, .ireturn), (14, .iload_n 0), (15, .bipush 97)], [(17, .if_icmp .lt 11), (20, .iload_n 0), (21, .bipush 122), (23, .if_icmp .gt 5), (26, .iconst 1), (27, .ireturn), (28, .iload_n 0), (29, .bipush 48), (31, .if_icmp .lt 11)], [(34, .iload_n 0), (35, .bipush 57), (37, .if_icmp .gt 5), (40, .iconst 2), (41, .ireturn), (42, .ldc 139), (44, .iload_n 0), (45, .i2c), (46, .invokevirtual 129)], [(49, .ifCond .lt 7), (52, .iconst 3), (53, .goto 4), (56, .iconst 4), (57, .ireturn)]]
theorem uX2_sortOf_0 : ∀ r ∈ tX2_sortOf_0, xchk1 cX2_sortOf r = true := fun r hr => List.all_eq_true.mp (by decide +kernel : (tX2_sortOf_0.all (fun r => xchk1 cX2_sortOf r)) = true) r hr
def tX2_sortOf : List (List (Nat × Instr)) := tX2_sortOf_0
theorem uX2_sortOf : ∀ r ∈ tX2_sortOf, xchk1 cX2_sortOf r = true := uX2_sortOf_0
def tX2_splitTape_0 : List (List (Nat × Instr)) := [[(0, .iconst 0), (1, .istore_n 1), (2, .iconst 0), (3, .istore_n 2), (4, .iconst 0), (5, .istore_n 3), (6, .iload_n 3), (7, .aload_n 0), (8, .getfield 20), (11, .if_icmp .ge 137), (14, .aload_n 0), (15, .getfield 24)], [(18, .iload_n 3), (19, .iaload), (20, .invokestatic 132), (23, .istore 4), (25, .iload 4), (27, .iconst 1), (28, .if_icmp .eq 9), (31, .iload 4)], [(33, .iconst 2), (34, .if_icmp .ne 7), (37, .iconst 1), (38, .goto 4), (41, .iconst 0), (42, .istore 5), (44, .iload_n 3), (45, .iconst 1), (46, .iadd), (47, .istore_n 2)], [(48, .iload 5), (50, .ifCond .eq 31), (53, .iload_n 2), (54, .aload_n 0), (55, .getfield 20), (58, .if_icmp .ge 23), (61, .aload_n 0), (62, .getfield 24)], [(65, .iload_n 2), (66, .iaload), (67, .invokestatic 132), (70, .iload 4), (72, .if_icmp .ne 9), (75, .iinc 2 1), (78, .goto (-30))], [(81, .iload 4), (83, .iconst 5), (84, .if_icmp .ne 6), (87, .goto 56), (90, .aload_n 0), (91, .getfield 28), (94, .iload_n 1), (95, .iload_n 3)], [(96, .iastore), (97, .aload_n 0), (98, .getfield 31), (101, .iload_n 1), (102, .iload 4), (104, .iconst 2), (105, .if_icmp .ne 14), (108, .iload_n 2), (109, .iload_n 3), (110, .isub), (111, .iconst 4)], [(112, .if_icmp .le 7), (115, .iconst 4), (116, .goto 5), (119, .iload 4), (121, .iastore), (122, .aload_n 0), (123, .getfield 34), (126, .iload_n 1), (127, .aload_n 0)]]
theorem uX2_splitTape_0 : ∀ r ∈ tX2_splitTape_0, xchk1 cX2_splitTape r = true := fun r hr => List.all_eq_true.mp (by decide +kernel : (tX2_splitTape_0.all (fun r => xchk1 cX2_splitTape r)) = true) r hr
def tX2_splitTape_1 : List (List (Nat × Instr)) := [[(128, .aload_n 0), (129, .getfield 31), (132, .iload_n 1), (133, .iaload), (134, .iload_n 3), (135, .iload_n 2), (136, .invokevirtual 135), (139, .iastore), (140, .iinc 1 1), (143, .iload_n 2)], [(144, .istore_n 3), (145, .goto (-139)), (148, .aload_n 0), (149, .getfield 28), (152, .iload_n 1), (153, .aload_n 0), (154, .getfield 20), (157, .iastore), (158, .aload_n 0), (159, .getfield 31)], [(162, .iload_n 1), (163, .iconst 0), (164, .iastore), (165, .aload_n 0), (166, .getfield 34), (169, .iload_n 1), (170, .iconst 0), (171, .iastore), (172, .return_)]]
theorem uX2_splitTape_1 : ∀ r ∈ tX2_splitTape_1, xchk1 cX2_splitTape r = true := fun r hr => List.all_eq_true.mp (by decide +kernel : (tX2_splitTape_1.all (fun r => xchk1 cX2_splitTape r)) = true) r hr
def tX2_splitTape : List (List (Nat × Instr)) := tX2_splitTape_0 ++ (tX2_splitTape_1)
theorem uX2_splitTape : ∀ r ∈ tX2_splitTape, xchk1 cX2_splitTape r = true := xap uX2_splitTape_0 (uX2_splitTape_1)
def tX3_init_0 : List (List (Nat × Instr)) := [[(0, .aload_n 0), (1, .invokespecial 3), (4, .aload_n 0), (5, .iconst 4), (6, .newarray .int), (8, .putfield 9), (11, .aload_n 0), (12, .iconst 4), (13, .newarray .int), (15, .putfield 15)], [(18, .aload_n 0), (19, .sipush 160), (22, .newarray .long), (24, .putfield 18), (27, .iconst 0), (28, .istore_n 1), (29, .iload_n 1), (30, .iconst 4), (31, .if_icmp .ge 16)], [(34, .aload_n 0), (35, .getfield 9), (38, .iload_n 1), (39, .iconst (-1)), (40, .iastore), (41, .iinc 1 1), (44, .goto (-15)), (47, .return_)]]
theorem uX3_init_0 : ∀ r ∈ tX3_init_0, xchk1 cX3_init r = true := fun r hr => List.all_eq_true.mp (by decide +kernel : (tX3_init_0.all (fun r => xchk1 cX3_init r)) = true) r hr
def tX3_init : List (List (Nat × Instr)) := tX3_init_0
theorem uX3_init : ∀ r ∈ tX3_init, xchk1 cX3_init r = true := uX3_init_0
def tX3_isMissing_0 : List (List (Nat × Instr)) := [[(0, .aload_n 0), (1, .getfield 9), (4, .iload_n 1), (5, .iaload), (6, .iconst (-1)), (7, .if_icmp .ne 7), (10, .iconst 1), (11, .goto 4), (14, .iconst 0), (15, .ireturn)]]
theorem uX3_isMissing_0 : ∀ r ∈ tX3_isMissing_0, xchk1 cX3_isMissing r = true := fun r hr => List.all_eq_true.mp (by decide +kernel : (tX3_isMissing_0.all (fun r => xchk1 cX3_isMissing r)) = true) r hr
def tX3_isMissing : List (List (Nat × Instr)) := tX3_isMissing_0
theorem uX3_isMissing : ∀ r ∈ tX3_isMissing, xchk1 cX3_isMissing r = true := uX3_isMissing_0
def tX3_move_0 : List (List (Nat × Instr)) := [[(0, .aload_n 0), (1, .getfield 18), (4, .iload_n 1), (5, .bipush 40), (7, .imul), (8, .iload_n 2), (9, .iadd), (10, .aload_n 0), (11, .getfield 18), (14, .iload_n 3), (15, .bipush 40)], [(17, .imul), (18, .iload 4), (20, .iadd), (21, .iload 5), (23, .invokestatic 22), (26, .return_)]]
theorem uX3_move_0 : ∀ r ∈ tX3_move_0, xchk1 cX3_move r = true := fun r hr => List.all_eq_true.mp (by decide +kernel : (tX3_move_0.all (fun r => xchk1 cX3_move r)) = true) r hr
def tX3_move : List (List (Nat × Instr)) := tX3_move_0
theorem uX3_move : ∀ r ∈ tX3_move, xchk1 cX3_move r = true := uX3_move_0
def tX3_read_0 : List (List (Nat × Instr)) := [[(0, .aload_n 0), (1, .getfield 18), (4, .iload_n 1), (5, .bipush 40), (7, .imul), (8, .iload_n 2), (9, .iadd), (10, .laload), (11, .lreturn)]]
theorem uX3_read_0 : ∀ r ∈ tX3_read_0, xchk1 cX3_read r = true := fun r hr => List.all_eq_true.mp (by decide +kernel : (tX3_read_0.all (fun r => xchk1 cX3_read r)) = true) r hr
def tX3_read : List (List (Nat × Instr)) := tX3_read_0
theorem uX3_read : ∀ r ∈ tX3_read, xchk1 cX3_read r = true := uX3_read_0
def tX3_renew_0 : List (List (Nat × Instr)) := [[(0, .aload_n 0), (1, .getfield 9), (4, .iload_n 1), (5, .iload_n 2), (6, .iastore), (7, .aload_n 0), (8, .getfield 15), (11, .iload_n 1), (12, .iload_n 3), (13, .iastore), (14, .iconst 0), (15, .istore 4)], [(17, .iload 4), (19, .iload_n 3), (20, .if_icmp .ge 22), (23, .aload_n 0), (24, .getfield 18), (27, .iload_n 1), (28, .bipush 40), (30, .imul), (31, .iload 4)], [(33, .iadd), (34, .lconst 0), (35, .lastore), (36, .iinc 4 1), (39, .goto (-22)), (42, .return_)]]
theorem uX3_renew_0 : ∀ r ∈ tX3_renew_0, xchk1 cX3_renew r = true := fun r hr => List.all_eq_true.mp (by decide +kernel : (tX3_renew_0.all (fun r => xchk1 cX3_renew r)) = true) r hr
def tX3_renew : List (List (Nat × Instr)) := tX3_renew_0
theorem uX3_renew : ∀ r ∈ tX3_renew, xchk1 cX3_renew r = true := uX3_renew_0
def tX3_spans_0 : List (List (Nat × Instr)) := [[(0, .iload_n 2), (1, .ifCond .lt 33), (4, .iload_n 3), (5, .ifCond .lt 29), (8, .iload_n 2), (9, .aload_n 0), (10, .getfield 15), (13, .iload_n 1), (14, .iaload), (15, .if_icmp .gt 19)], [(18, .iload_n 3), (19, .aload_n 0), (20, .getfield 15), (23, .iload_n 1), (24, .iaload), (25, .iload_n 2), (26, .isub), (27, .if_icmp .gt 7), (30, .iconst 1), (31, .goto 4)], [(34, .iconst 0), (35, .ireturn)]]
theorem uX3_spans_0 : ∀ r ∈ tX3_spans_0, xchk1 cX3_spans r = true := fun r hr => List.all_eq_true.mp (by decide +kernel : (tX3_spans_0.all (fun r => xchk1 cX3_spans r)) = true) r hr
def tX3_spans : List (List (Nat × Instr)) := tX3_spans_0
theorem uX3_spans : ∀ r ∈ tX3_spans, xchk1 cX3_spans r = true := uX3_spans_0
def tX3_write_0 : List (List (Nat × Instr)) := [[(0, .lload_n 3), (1, .lstore 5), (3, .aload_n 0), (4, .getfield 9), (7, .iload_n 1), (8, .iaload), (9, .iconst 1), (10, .if_icmp .ne 8), (13, .lload_n 3), (14, .l2i), (15, .i2l)], [(16, .lstore 5), (18, .aload_n 0), (19, .getfield 9), (22, .iload_n 1), (23, .iaload), (24, .iconst 2), (25, .if_icmp .ne 9), (28, .lload_n 3), (29, .l2i), (30, .i2b), (31, .i2l)], [(32, .lstore 5), (34, .aload_n 0), (35, .getfield 18), (38, .iload_n 1), (39, .bipush 40), (41, .imul), (42, .iload_n 2), (43, .iadd), (44, .lload 5), (46, .lastore), (47, .return_)]]
theorem uX3_write_0 : ∀ r ∈ tX3_write_0, xchk1 cX3_write r = true := fun r hr => List.all_eq_true.mp (by decide +kernel : (tX3_write_0.all (fun r => xchk1 cX3_write r)) = true) r hr
def tX3_write : List (List (Nat × Instr)) := tX3_write_0
theorem uX3_write : ∀ r ∈ tX3_write, xchk1 cX3_write r = true := uX3_write_0
def tX4_addUp_0 : List (List (Nat × Instr)) := [[(0, .lconst 0), (1, .lstore_n 3), (2, .iconst 1), (3, .istore 5), (5, .iconst 0), (6, .istore 6), (8, .iload 6), (10, .iload_n 2), (11, .if_icmp .ge 37), (14, .iload 5)], [(16, .iconst 1), (17, .if_icmp .ne 31), (20, .aload_n 0), (21, .iload_n 1), (22, .iload 6), (24, .invokevirtual 142), (27, .istore 5), (29, .iload 5), (31, .iconst 1)], [(32, .if_icmp .ne 10), (35, .lload_n 3), (36, .aload_n 0), (37, .getfield 18), (40, .ladd), (41, .lstore_n 3), (42, .iinc 6 1), (45, .goto (-37))], [(48, .iload 5), (50, .ifCond .eq 9), (53, .iload 5), (55, .iconst 1), (56, .if_icmp .ne 11), (59, .aload_n 0), (60, .lload_n 3), (61, .invokevirtual 131)], [(64, .goto 5), (67, .iload 5), (69, .ireturn)]]
theorem uX4_addUp_0 : ∀ r ∈ tX4_addUp_0, xchk1 cX4_addUp r = true := fun r hr => List.all_eq_true.mp (by decide +kernel : (tX4_addUp_0.all (fun r => xchk1 cX4_addUp r)) = true) r hr
def tX4_addUp : List (List (Nat × Instr)) := tX4_addUp_0
theorem uX4_addUp : ∀ r ∈ tX4_addUp, xchk1 cX4_addUp r = true := uX4_addUp_0
def tX4_askHead_0 : List (List (Nat × Instr)) := [[(0, .aload_n 0), (1, .iload_n 1), (2, .invokevirtual 37), (5, .istore_n 3), (6, .iload_n 3), (7, .ifCond .ge 5), (10, .iload_n 3), (11, .ireturn), (12, .iload_n 2), (13, .ifCond .lt 16)], [(16, .iload_n 2), (17, .aload_n 0), (18, .getfield 26), (21, .getfield 41), (24, .iload_n 3), (25, .iaload), (26, .if_icmp .lt 6), (29, .bipush (-24)), (31, .ireturn)], [(32, .iload_n 3), (33, .bipush 64), (35, .imul), (36, .iload_n 2), (37, .iadd), (38, .istore 4), (40, .aload_n 0), (41, .getfield 26), (44, .getfield 80), (47, .iload 4)], [(49, .baload), (50, .iconst 2), (51, .if_icmp .ne 6), (54, .bipush (-21)), (56, .ireturn), (57, .aload_n 0), (58, .getfield 26), (61, .getfield 80)], [(64, .iload 4), (66, .baload), (67, .ifCond .ne 93), (70, .aload_n 0), (71, .invokevirtual 54), (74, .ifCond .ne 6), (77, .bipush (-6)), (79, .ireturn)], [(80, .aload_n 0), (81, .getfield 26), (84, .getfield 80), (87, .iload 4), (89, .iconst 2), (90, .bastore), (91, .aload_n 0), (92, .iload_n 3), (93, .iload_n 2), (94, .invokevirtual 84)], [(97, .istore 5), (99, .aload_n 0), (100, .getfield 26), (103, .getfield 80), (106, .iload 4), (108, .iconst 0), (109, .bastore), (110, .iload 5)], [(112, .bipush (-6)), (114, .if_icmp .ne 6), (117, .bipush (-6)), (119, .ireturn), (120, .aload_n 0), (121, .getfield 26), (124, .getfield 80), (127, .iload 4)]]
theorem uX4_askHead_0 : ∀ r ∈ tX4_askHead_0, xchk1 cX4_askHead r = true := fun r hr => List.all_eq_true.mp (by decide +kernel : (tX4_askHead_0.all (fun r => xchk1 cX4_askHead r)) = true) r hr
def tX4_askHead_1 : List (List (Nat × Instr)) := [[(129, .iload 5), (131, .i2b), (132, .bastore), (133, .aload_n 0), (134, .getfield 26), (137, .getfield 87), (140, .iload 4), (142, .aload_n 0), (143, .getfield 18)], [(146, .lastore), (147, .aload_n 0), (148, .getfield 26), (151, .getfield 91), (154, .iload_n 3), (155, .dup2), (156, .iaload), (157, .iconst 1), (158, .iadd), (159, .iastore)], [(160, .aload_n 0), (161, .aload_n 0), (162, .getfield 26), (165, .getfield 87), (168, .iload 4), (170, .laload), (171, .putfield 18), (174, .aload_n 0), (175, .getfield 26)], [(178, .getfield 80), (181, .iload 4), (183, .baload), (184, .ireturn)]]
theorem uX4_askHead_1 : ∀ r ∈ tX4_askHead_1, xchk1 cX4_askHead r = true := fun r hr => List.all_eq_true.mp (by decide +kernel : (tX4_askHead_1.all (fun r => xchk1 cX4_askHead r)) = true) r hr
def tX4_askHead : List (List (Nat × Instr)) := tX4_askHead_0 ++ (tX4_askHead_1)
theorem uX4_askHead : ∀ r ∈ tX4_askHead, xchk1 cX4_askHead r = true := xap uX4_askHead_0 (uX4_askHead_1)
def tX4_askPlace_0 : List (List (Nat × Instr)) := [[(0, .aload_n 0), (1, .iload_n 1), (2, .invokevirtual 37), (5, .istore_n 3), (6, .iload_n 3), (7, .ifCond .ge 5), (10, .iload_n 3), (11, .ireturn), (12, .iload_n 2), (13, .ifCond .lt 9)], [(16, .iload_n 2), (17, .bipush 64), (19, .if_icmp .lt 6), (22, .bipush (-24)), (24, .ireturn), (25, .aload_n 0), (26, .getfield 26), (29, .getfield 41)], [(32, .iload_n 3), (33, .iaload), (34, .istore 4), (36, .iload 4), (38, .iload_n 2), (39, .if_icmp .gt 173), (42, .aload_n 0), (43, .getfield 26), (46, .getfield 47)], [(49, .iload_n 3), (50, .iaload), (51, .iconst 1), (52, .if_icmp .ne 160), (55, .aload_n 0), (56, .getfield 26), (59, .getfield 50), (62, .iload_n 3), (63, .baload)], [(64, .ifCond .eq 6), (67, .bipush (-21)), (69, .ireturn), (70, .aload_n 0), (71, .invokevirtual 54), (74, .ifCond .ne 6), (77, .bipush (-6)), (79, .ireturn)], [(80, .aload_n 0), (81, .getfield 26), (84, .iload_n 3), (85, .invokevirtual 58), (88, .aload_n 0), (89, .getfield 26), (92, .getfield 50), (95, .iload_n 3)], [(96, .iconst 1), (97, .bastore), (98, .aload_n 0), (99, .iload_n 3), (100, .invokevirtual 62), (103, .ifCond .eq 15), (106, .aload_n 0), (107, .iload_n 3), (108, .iload 4), (110, .invokevirtual 66)], [(113, .istore 5), (115, .goto 38), (118, .aload_n 0), (119, .getfield 22), (122, .getfield 69), (125, .iload_n 3), (126, .iaload), (127, .bipush 7)]]
theorem uX4_askPlace_0 : ∀ r ∈ tX4_askPlace_0, xchk1 cX4_askPlace r = true := fun r hr => List.all_eq_true.mp (by decide +kernel : (tX4_askPlace_0.all (fun r => xchk1 cX4_askPlace r)) = true) r hr
def tX4_askPlace_1 : List (List (Nat × Instr)) := [[(129, .if_icmp .ne 15), (132, .aload_n 0), (133, .iload_n 3), (134, .iload 4), (136, .invokevirtual 74), (139, .istore 5), (141, .goto 12)], [(144, .aload_n 0), (145, .iload_n 3), (146, .iload 4), (148, .invokevirtual 77), (151, .istore 5), (153, .aload_n 0), (154, .getfield 26), (157, .getfield 50)], [(160, .iload_n 3), (161, .iconst 0), (162, .bastore), (163, .iload 5), (165, .bipush (-6)), (167, .if_icmp .ne 6), (170, .bipush (-6)), (172, .ireturn), (173, .iload 5), (175, .iconst 1)], [(176, .if_icmp .ne 19), (179, .aload_n 0), (180, .getfield 26), (183, .getfield 41), (186, .iload_n 3), (187, .dup2), (188, .iaload), (189, .iconst 1), (190, .iadd), (191, .iastore)], [(192, .goto 14), (195, .aload_n 0), (196, .getfield 26), (199, .getfield 47), (202, .iload_n 3), (203, .iload 5), (205, .iastore), (206, .iinc 4 1)], [(209, .goto (-173)), (212, .iload_n 2), (213, .aload_n 0), (214, .getfield 26), (217, .getfield 41), (220, .iload_n 3), (221, .iaload), (222, .if_icmp .ge 7)], [(225, .iconst 1), (226, .goto 12), (229, .aload_n 0), (230, .getfield 26), (233, .getfield 47), (236, .iload_n 3), (237, .iaload), (238, .ireturn)]]
theorem uX4_askPlace_1 : ∀ r ∈ tX4_askPlace_1, xchk1 cX4_askPlace r = true := fun r hr => List.all_eq_true.mp (by decide +kernel : (tX4_askPlace_1.all (fun r => xchk1 cX4_askPlace r)) = true) r hr
def tX4_askPlace : List (List (Nat × Instr)) := tX4_askPlace_0 ++ (tX4_askPlace_1)
theorem uX4_askPlace : ∀ r ∈ tX4_askPlace, xchk1 cX4_askPlace r = true := xap uX4_askPlace_0 (uX4_askPlace_1)
def tX4_begin_0 : List (List (Nat × Instr)) := [[(0, .aload_n 0), (1, .aload_n 1), (2, .putfield 26), (5, .aload_n 0), (6, .iload_n 2), (7, .putfield 9), (10, .aload_n 0), (11, .iconst 0), (12, .putfield 15), (15, .return_)]]
theorem uX4_begin_0 : ∀ r ∈ tX4_begin_0, xchk1 cX4_begin r = true := fun r hr => List.all_eq_true.mp (by decide +kernel : (tX4_begin_0.all (fun r => xchk1 cX4_begin r)) = true) r hr
def tX4_begin : List (List (Nat × Instr)) := tX4_begin_0
theorem uX4_begin : ∀ r ∈ tX4_begin, xchk1 cX4_begin r = true := uX4_begin_0
def tX4_beginsRun_0 : List (List (Nat × Instr)) := [[(0, .aload_n 0), (1, .getfield 15), (4, .aload_n 0), (5, .getfield 9), (8, .if_icmp .lt 5), (11, .iconst 0), (12, .ireturn), (13, .aload_n 0), (14, .dup), (15, .getfield 15)], [(18, .iconst 1), (19, .iadd), (20, .putfield 15), (23, .iconst 1), (24, .ireturn)]]
theorem uX4_beginsRun_0 : ∀ r ∈ tX4_beginsRun_0, xchk1 cX4_beginsRun r = true := fun r hr => List.all_eq_true.mp (by decide +kernel : (tX4_beginsRun_0.all (fun r => xchk1 cX4_beginsRun r)) = true) r hr
def tX4_beginsRun : List (List (Nat × Instr)) := tX4_beginsRun_0
theorem uX4_beginsRun : ∀ r ∈ tX4_beginsRun, xchk1 cX4_beginsRun r = true := uX4_beginsRun_0
def tX4_behindNames_0 : List (List (Nat × Instr)) := [[(0, .iload_n 1), (1, .istore_n 2), (2, .iconst 0), (3, .istore_n 3), (4, .iload_n 3), (5, .bipush 8), (7, .if_icmp .gt 87), (10, .iload_n 2), (11, .ifCond .lt 15), (14, .iload_n 2), (15, .aload_n 0)], [(16, .getfield 22), (19, .getfield 69), (22, .arraylength), (23, .if_icmp .lt 6), (26, .bipush (-23)), (28, .ireturn), (29, .aload_n 0), (30, .getfield 22)], [(33, .getfield 69), (36, .iload_n 2), (37, .iaload), (38, .ifCond .eq 5), (41, .iload_n 2), (42, .ireturn), (43, .aload_n 0), (44, .getfield 22), (47, .getfield 94)], [(50, .iload_n 2), (51, .iaload), (52, .istore 4), (54, .iload 4), (56, .ifCond .lt 23), (59, .iload 4), (61, .bipush 8), (63, .if_icmp .ge 16)], [(66, .aload_n 0), (67, .getfield 22), (70, .getfield 96), (73, .iload 4), (75, .iaload), (76, .ifCond .ne 6), (79, .bipush (-23))], [(81, .ireturn), (82, .iload 4), (84, .bipush 24), (86, .imul), (87, .istore_n 2), (88, .iinc 3 1), (91, .goto (-87)), (94, .bipush (-21))], [(96, .ireturn)]]
theorem uX4_behindNames_0 : ∀ r ∈ tX4_behindNames_0, xchk1 cX4_behindNames r = true := fun r hr => List.all_eq_true.mp (by decide +kernel : (tX4_behindNames_0.all (fun r => xchk1 cX4_behindNames r)) = true) r hr
def tX4_behindNames : List (List (Nat × Instr)) := tX4_behindNames_0
theorem uX4_behindNames : ∀ r ∈ tX4_behindNames, xchk1 cX4_behindNames r = true := uX4_behindNames_0
def tX4_combine_0 : List (List (Nat × Instr)) := [[(0, .iload_n 1), (1, .bipush 47), (3, .if_icmp .eq 9), (6, .iload_n 1), (7, .bipush 37), (9, .if_icmp .ne 13), (12, .lload 4), (14, .lconst 0), (15, .lcmp)], [(16, .ifCond .ne 6), (19, .bipush (-22)), (21, .ireturn), (22, .iload_n 1), (23, .tableswitch 81 42 47 #[59, 37, 81, 48, 81, 70])], [], [(60, .aload_n 0), (61, .lload_n 2), (62, .lload 4)], [(64, .ladd), (65, .putfield 18), (68, .goto 44), (71, .aload_n 0), (72, .lload_n 2), (73, .lload 4), (75, .lsub), (76, .putfield 18), (79, .goto 33)], [(82, .aload_n 0), (83, .lload_n 2), (84, .lload 4), (86, .lmul), (87, .putfield 18), (90, .goto 22), (93, .aload_n 0), (94, .lload_n 2), (95, .lload 4)], [(97, .ldiv), (98, .putfield 18), (101, .goto 11), (104, .aload_n 0), (105, .lload_n 2), (106, .lload 4), (108, .lrem), (109, .putfield 18)], [(112, .iconst 1), (113, .ireturn)]]
theorem uX4_combine_0 : ∀ r ∈ tX4_combine_0, xchk1 cX4_combine r = true := fun r hr => List.all_eq_true.mp (by decide +kernel : (tX4_combine_0.all (fun r => xchk1 cX4_combine r)) = true) r hr
def tX4_combine : List (List (Nat × Instr)) := tX4_combine_0
theorem uX4_combine : ∀ r ∈ tX4_combine, xchk1 cX4_combine r = true := uX4_combine_0
def tX4_firstUnlike_0 : List (List (Nat × Instr)) := [[(0, .iconst 0), (1, .istore 4), (3, .iload 4), (5, .iload_n 3), (6, .if_icmp .ge 87), (9, .aload_n 0), (10, .iload_n 1), (11, .iload 4), (13, .invokevirtual 142)], [(16, .istore 5), (18, .iload 5), (20, .bipush (-6)), (22, .if_icmp .ne 6), (25, .bipush (-6)), (27, .ireturn), (28, .aload_n 0), (29, .getfield 18)], [(32, .lstore 6), (34, .aload_n 0), (35, .iload_n 2), (36, .iload 4), (38, .invokevirtual 142), (41, .istore 8), (43, .iload 8), (45, .bipush (-6)), (47, .if_icmp .ne 6)], [(50, .bipush (-6)), (52, .ireturn), (53, .iload 5), (55, .iload 8), (57, .if_icmp .ne 19), (60, .iload 5), (62, .iconst 1), (63, .if_icmp .ne 16)], [(66, .lload 6), (68, .aload_n 0), (69, .getfield 18), (72, .lcmp), (73, .ifCond .eq 6), (76, .iload 4), (78, .ireturn), (79, .iload 5)], [(81, .iconst 1), (82, .if_icmp .eq 5), (85, .iconst (-1)), (86, .ireturn), (87, .iinc 4 1), (90, .goto (-87)), (93, .iconst (-1)), (94, .ireturn)]]
theorem uX4_firstUnlike_0 : ∀ r ∈ tX4_firstUnlike_0, xchk1 cX4_firstUnlike r = true := fun r hr => List.all_eq_true.mp (by decide +kernel : (tX4_firstUnlike_0.all (fun r => xchk1 cX4_firstUnlike r)) = true) r hr
def tX4_firstUnlike : List (List (Nat × Instr)) := tX4_firstUnlike_0
theorem uX4_firstUnlike : ∀ r ∈ tX4_firstUnlike, xchk1 cX4_firstUnlike r = true := uX4_firstUnlike_0
def tX4_gather_0 : List (List (Nat × Instr)) := [[(0, .iconst 0), (1, .istore 4), (3, .iload 4), (5, .iload_n 2), (6, .if_icmp .ge 52), (9, .iload 4), (11, .aload_n 3), (12, .arraylength), (13, .if_icmp .ge 45)], [(16, .aload_n 0), (17, .iload_n 1), (18, .iload 4), (20, .invokevirtual 142), (23, .istore 5), (25, .iload 5), (27, .bipush (-6)), (29, .if_icmp .ne 6)], [(32, .bipush (-6)), (34, .ireturn), (35, .iload 5), (37, .iconst 1), (38, .if_icmp .eq 6), (41, .iload 4), (43, .ireturn), (44, .aload_n 3), (45, .iload 4), (47, .aload_n 0)], [(48, .getfield 18), (51, .lastore), (52, .iinc 4 1), (55, .goto (-52)), (58, .iload_n 2), (59, .ireturn)]]
theorem uX4_gather_0 : ∀ r ∈ tX4_gather_0, xchk1 cX4_gather r = true := fun r hr => List.all_eq_true.mp (by decide +kernel : (tX4_gather_0.all (fun r => xchk1 cX4_gather r)) = true) r hr
def tX4_gather : List (List (Nat × Instr)) := tX4_gather_0
theorem uX4_gather : ∀ r ∈ tX4_gather, xchk1 cX4_gather r = true := uX4_gather_0
def tX4_init_0 : List (List (Nat × Instr)) := [[(0, .aload_n 0), (1, .invokespecial 3), (4, .aload_n 0), (5, .iconst 0), (6, .putfield 9), (9, .aload_n 0), (10, .iconst 0), (11, .putfield 15), (14, .aload_n 0), (15, .lconst 0)], [(16, .putfield 18), (19, .aload_n 0), (20, .aload_n 1), (21, .putfield 22), (24, .aload_n 0), (25, .aload_n 2), (26, .putfield 26), (29, .return_)]]
theorem uX4_init_0 : ∀ r ∈ tX4_init_0, xchk1 cX4_init r = true := fun r hr => List.all_eq_true.mp (by decide +kernel : (tX4_init_0.all (fun r => xchk1 cX4_init r)) = true) r hr
def tX4_init : List (List (Nat × Instr)) := tX4_init_0
theorem uX4_init : ∀ r ∈ tX4_init, xchk1 cX4_init r = true := uX4_init_0
def tX4_isThere_0 : List (List (Nat × Instr)) := [[(0, .aload_n 0), (1, .iload_n 1), (2, .bipush 24), (4, .imul), (5, .iload_n 2), (6, .invokevirtual 30), (9, .ireturn)]]
theorem uX4_isThere_0 : ∀ r ∈ tX4_isThere_0, xchk1 cX4_isThere r = true := fun r hr => List.all_eq_true.mp (by decide +kernel : (tX4_isThere_0.all (fun r => xchk1 cX4_isThere r)) = true) r hr
def tX4_isThere : List (List (Nat × Instr)) := tX4_isThere_0
theorem uX4_isThere : ∀ r ∈ tX4_isThere, xchk1 cX4_isThere r = true := uX4_isThere_0
def tX4_mergePlace_0 : List (List (Nat × Instr)) := [[(0, .aload_n 0), (1, .getfield 22), (4, .iload_n 1), (5, .invokevirtual 99), (8, .istore_n 3), (9, .aload_n 0), (10, .getfield 22), (13, .iload_n 1), (14, .invokevirtual 105)], [(17, .istore 4), (19, .aload_n 0), (20, .getfield 26), (23, .getfield 115), (26, .iload_n 1), (27, .iaload), (28, .istore 5), (30, .aload_n 0), (31, .getfield 26)], [(34, .getfield 125), (37, .iload_n 1), (38, .iaload), (39, .istore 6), (41, .aload_n 0), (42, .iload_n 3), (43, .iload 5), (45, .invokevirtual 30)], [(48, .istore 7), (50, .iload 7), (52, .iconst 1), (53, .if_icmp .eq 11), (56, .iload 7), (58, .ifCond .eq 6), (61, .iload 7), (63, .ireturn)], [(64, .aload_n 0), (65, .iload 4), (67, .iload 6), (69, .invokevirtual 30), (72, .istore 8), (74, .iload 8), (76, .iconst 1), (77, .if_icmp .eq 11)], [(80, .iload 8), (82, .ifCond .eq 6), (85, .iload 8), (87, .ireturn), (88, .iload 7), (90, .ifCond .ne 10), (93, .iload 8), (95, .ifCond .ne 5)], [(98, .iconst 0), (99, .ireturn), (100, .iload 8), (102, .ifCond .ne 7), (105, .iconst 1), (106, .goto 4), (109, .iconst 0), (110, .istore 9)], [(112, .iload 7), (114, .ifCond .ne 7), (117, .iconst 1), (118, .goto 4), (121, .iconst 0), (122, .istore 10), (124, .iload 9), (126, .ifCond .ne 85)]]
theorem uX4_mergePlace_0 : ∀ r ∈ tX4_mergePlace_0, xchk1 cX4_mergePlace r = true := fun r hr => List.all_eq_true.mp (by decide +kernel : (tX4_mergePlace_0.all (fun r => xchk1 cX4_mergePlace r)) = true) r hr
def tX4_mergePlace_1 : List (List (Nat × Instr)) := [[(129, .iload 10), (131, .ifCond .ne 80), (134, .aload_n 0), (135, .iload_n 3), (136, .iload 5), (138, .invokevirtual 34), (141, .istore 11), (143, .iload 11)], [(145, .iconst 1), (146, .if_icmp .eq 6), (149, .iload 11), (151, .ireturn), (152, .aload_n 0), (153, .getfield 18), (156, .lstore 12), (158, .aload_n 0), (159, .iload 4)], [(161, .iload 6), (163, .invokevirtual 34), (166, .istore 11), (168, .iload 11), (170, .iconst 1), (171, .if_icmp .eq 6), (174, .iload 11)], [(176, .ireturn), (177, .lload 12), (179, .aload_n 0), (180, .getfield 18), (183, .lcmp), (184, .ifCond .gt 7), (187, .iconst 1), (188, .goto 4), (191, .iconst 0)], [(192, .istore 9), (194, .aload_n 0), (195, .getfield 18), (198, .lload 12), (200, .lcmp), (201, .ifCond .gt 7), (204, .iconst 1), (205, .goto 4)], [(208, .iconst 0), (209, .istore 10), (211, .aload_n 0), (212, .getfield 26), (215, .getfield 122), (218, .iload_n 1), (219, .bipush 64), (221, .imul), (222, .iload_n 2), (223, .iadd)], [(224, .iload 9), (226, .ifCond .eq 8), (229, .iload 5), (231, .goto 8), (234, .bipush 64), (236, .iload 6), (238, .iadd), (239, .i2b)], [(240, .bastore), (241, .iload 9), (243, .ifCond .eq 16), (246, .aload_n 0), (247, .getfield 26), (250, .getfield 115), (253, .iload_n 1), (254, .iload 5)]]
theorem uX4_mergePlace_1 : ∀ r ∈ tX4_mergePlace_1, xchk1 cX4_mergePlace r = true := fun r hr => List.all_eq_true.mp (by decide +kernel : (tX4_mergePlace_1.all (fun r => xchk1 cX4_mergePlace r)) = true) r hr
def tX4_mergePlace_2 : List (List (Nat × Instr)) := [[(256, .iconst 1), (257, .iadd), (258, .iastore), (259, .iload 10), (261, .ifCond .eq 16), (264, .aload_n 0), (265, .getfield 26), (268, .getfield 125), (271, .iload_n 1)], [(272, .iload 6), (274, .iconst 1), (275, .iadd), (276, .iastore), (277, .iconst 1), (278, .ireturn)]]
theorem uX4_mergePlace_2 : ∀ r ∈ tX4_mergePlace_2, xchk1 cX4_mergePlace r = true := fun r hr => List.all_eq_true.mp (by decide +kernel : (tX4_mergePlace_2.all (fun r => xchk1 cX4_mergePlace r)) = true) r hr
def tX4_mergePlace : List (List (Nat × Instr)) := tX4_mergePlace_0 ++ (tX4_mergePlace_1 ++ (tX4_mergePlace_2))
theorem uX4_mergePlace : ∀ r ∈ tX4_mergePlace, xchk1 cX4_mergePlace r = true := xap uX4_mergePlace_0 (xap uX4_mergePlace_1 (uX4_mergePlace_2))
def tX4_outcome_0 : List (List (Nat × Instr)) := [[(0, .aload_n 0), (1, .iload_n 1), (2, .bipush 24), (4, .imul), (5, .iload_n 2), (6, .invokevirtual 30), (9, .istore_n 3), (10, .iload_n 3), (11, .iconst 1), (12, .if_icmp .ne 15), (15, .aload_n 0)], [(16, .iload_n 1), (17, .bipush 24), (19, .imul), (20, .iload_n 2), (21, .invokevirtual 34), (24, .goto 4), (27, .iload_n 3), (28, .ireturn)]]
theorem uX4_outcome_0 : ∀ r ∈ tX4_outcome_0, xchk1 cX4_outcome r = true := fun r hr => List.all_eq_true.mp (by decide +kernel : (tX4_outcome_0.all (fun r => xchk1 cX4_outcome r)) = true) r hr
def tX4_outcome : List (List (Nat × Instr)) := tX4_outcome_0
theorem uX4_outcome : ∀ r ∈ tX4_outcome, xchk1 cX4_outcome r = true := uX4_outcome_0
def tX4_passes_0 : List (List (Nat × Instr)) := [[(0, .iload_n 0), (1, .tableswitch 78 60 62 #[27, 61, 44])], [(28, .lload_n 1), (29, .iload_n 3), (30, .i2l), (31, .lcmp)], [(32, .ifCond .ge 7), (35, .iconst 1), (36, .goto 4), (39, .iconst 0), (40, .istore 4), (42, .goto 60), (45, .lload_n 1), (46, .iload_n 3), (47, .i2l)], [(48, .lcmp), (49, .ifCond .le 7), (52, .iconst 1), (53, .goto 4), (56, .iconst 0), (57, .istore 4), (59, .goto 43), (62, .lload_n 1), (63, .iload_n 3)], [(64, .i2l), (65, .lcmp), (66, .ifCond .ne 7), (69, .iconst 1), (70, .goto 4), (73, .iconst 0), (74, .istore 4), (76, .goto 26), (79, .iload_n 3)], [(80, .ifCond .ne 6), (83, .bipush (-22)), (85, .ireturn), (86, .lload_n 1), (87, .iload_n 3), (88, .i2l), (89, .lrem), (90, .lconst 0), (91, .lcmp), (92, .ifCond .ne 7), (95, .iconst 1)], [(96, .goto 4), (99, .iconst 0), (100, .istore 4), (102, .iload 4), (104, .ifCond .eq 7), (107, .iconst 1), (108, .goto 4), (111, .iconst 0)], [(112, .ireturn)]]
theorem uX4_passes_0 : ∀ r ∈ tX4_passes_0, xchk1 cX4_passes r = true := fun r hr => List.all_eq_true.mp (by decide +kernel : (tX4_passes_0.all (fun r => xchk1 cX4_passes r)) = true) r hr
def tX4_passes : List (List (Nat × Instr)) := tX4_passes_0
theorem uX4_passes : ∀ r ∈ tX4_passes, xchk1 cX4_passes r = true := uX4_passes_0
def tX4_passesOwnHeads_0 : List (List (Nat × Instr)) := [[(0, .iconst 0), (1, .istore 5), (3, .iload 5), (5, .iload_n 2), (6, .if_icmp .ge 52), (9, .aload_n 0), (10, .iload_n 1), (11, .iload 5), (13, .invokevirtual 34)], [(16, .istore 6), (18, .iload 6), (20, .iconst 1), (21, .if_icmp .eq 6), (24, .iload 6), (26, .ireturn), (27, .aload_n 0), (28, .getfield 18), (31, .lconst 0)], [(32, .lcmp), (33, .ifCond .ne 6), (36, .bipush (-22)), (38, .ireturn), (39, .lload_n 3), (40, .aload_n 0), (41, .getfield 18), (44, .lrem), (45, .lconst 0), (46, .lcmp), (47, .ifCond .ne 5)], [(50, .iconst 0), (51, .ireturn), (52, .iinc 5 1), (55, .goto (-52)), (58, .iconst 1), (59, .ireturn)]]
theorem uX4_passesOwnHeads_0 : ∀ r ∈ tX4_passesOwnHeads_0, xchk1 cX4_passesOwnHeads r = true := fun r hr => List.all_eq_true.mp (by decide +kernel : (tX4_passesOwnHeads_0.all (fun r => xchk1 cX4_passesOwnHeads r)) = true) r hr
def tX4_passesOwnHeads : List (List (Nat × Instr)) := tX4_passesOwnHeads_0
theorem uX4_passesOwnHeads : ∀ r ∈ tX4_passesOwnHeads, xchk1 cX4_passesOwnHeads r = true := uX4_passesOwnHeads_0
def tX4_placeOf_0 : List (List (Nat × Instr)) := [[(0, .iconst 0), (1, .istore 5), (3, .iload 5), (5, .iload 4), (7, .if_icmp .ge 48), (10, .aload_n 0), (11, .iload_n 1), (12, .iload 5), (14, .invokevirtual 142)], [(17, .istore 6), (19, .iload 6), (21, .bipush (-6)), (23, .if_icmp .ne 6), (26, .bipush (-6)), (28, .ireturn), (29, .iload 6), (31, .iconst 1)], [(32, .if_icmp .eq 5), (35, .iconst (-1)), (36, .ireturn), (37, .aload_n 0), (38, .getfield 18), (41, .lload_n 2), (42, .lcmp), (43, .ifCond .ne 6), (46, .iload 5)], [(48, .ireturn), (49, .iinc 5 1), (52, .goto (-49)), (55, .iconst (-1)), (56, .ireturn)]]
theorem uX4_placeOf_0 : ∀ r ∈ tX4_placeOf_0, xchk1 cX4_placeOf r = true := fun r hr => List.all_eq_true.mp (by decide +kernel : (tX4_placeOf_0.all (fun r => xchk1 cX4_placeOf r)) = true) r hr
def tX4_placeOf : List (List (Nat × Instr)) := tX4_placeOf_0
theorem uX4_placeOf : ∀ r ∈ tX4_placeOf, xchk1 cX4_placeOf r = true := uX4_placeOf_0
def tX4_rising_0 : List (List (Nat × Instr)) := [[(0, .lconst 0), (1, .lstore_n 2), (2, .iconst 0), (3, .istore 4), (5, .iload 4), (7, .bipush 64), (9, .if_icmp .ge 56), (12, .aload_n 0), (13, .iload_n 1), (14, .iload 4)], [(16, .invokevirtual 142), (19, .istore 5), (21, .iload 5), (23, .bipush (-6)), (25, .if_icmp .ne 6), (28, .bipush (-6)), (30, .ireturn), (31, .iload 5)], [(33, .iconst 1), (34, .if_icmp .ne 17), (37, .iload 4), (39, .ifCond .le 15), (42, .aload_n 0), (43, .getfield 18), (46, .lload_n 2), (47, .lcmp)], [(48, .ifCond .gt 6), (51, .iload 4), (53, .ireturn), (54, .aload_n 0), (55, .getfield 18), (58, .lstore_n 2), (59, .iinc 4 1), (62, .goto (-57))], [(65, .bipush 64), (67, .ireturn)]]
theorem uX4_rising_0 : ∀ r ∈ tX4_rising_0, xchk1 cX4_rising r = true := fun r hr => List.all_eq_true.mp (by decide +kernel : (tX4_rising_0.all (fun r => xchk1 cX4_rising r)) = true) r hr
def tX4_rising : List (List (Nat × Instr)) := tX4_rising_0
theorem uX4_rising : ∀ r ∈ tX4_rising, xchk1 cX4_rising r = true := uX4_rising_0
def tX4_seekPlace_0 : List (List (Nat × Instr)) := [[(0, .aload_n 0), (1, .getfield 22), (4, .iload_n 1), (5, .invokevirtual 99), (8, .istore_n 3), (9, .aload_n 0), (10, .getfield 26), (13, .getfield 115)], [(16, .iload_n 1), (17, .iaload), (18, .istore 4), (20, .iload 4), (22, .bipush 64), (24, .if_icmp .gt 141), (27, .aload_n 0), (28, .iload_n 3), (29, .iload 4), (31, .invokevirtual 30)], [(34, .istore 5), (36, .iload 5), (38, .iconst 1), (39, .if_icmp .ne 12), (42, .aload_n 0), (43, .iload_n 3), (44, .iload 4), (46, .invokevirtual 34)], [(49, .istore 5), (51, .iload 5), (53, .iconst 1), (54, .if_icmp .eq 6), (57, .iload 5), (59, .ireturn), (60, .aload_n 0), (61, .getfield 22)], [(64, .getfield 69), (67, .iload_n 1), (68, .iaload), (69, .iconst 4), (70, .if_icmp .ne 33), (73, .aload_n 0), (74, .getfield 22), (77, .getfield 108)], [(80, .iload_n 1), (81, .iaload), (82, .aload_n 0), (83, .getfield 18), (86, .aload_n 0), (87, .getfield 22), (90, .getfield 94), (93, .iload_n 1), (94, .iaload), (95, .invokestatic 111)], [(98, .istore 5), (100, .goto 15), (103, .aload_n 0), (104, .iload_n 1), (105, .iload_n 2), (106, .aload_n 0), (107, .getfield 18), (110, .invokevirtual 118)], [(113, .istore 5), (115, .iload 5), (117, .iconst 1), (118, .if_icmp .ne 33), (121, .aload_n 0), (122, .getfield 26), (125, .getfield 122)]]
theorem uX4_seekPlace_0 : ∀ r ∈ tX4_seekPlace_0, xchk1 cX4_seekPlace r = true := fun r hr => List.all_eq_true.mp (by decide +kernel : (tX4_seekPlace_0.all (fun r => xchk1 cX4_seekPlace r)) = true) r hr
def tX4_seekPlace_1 : List (List (Nat × Instr)) := [[(128, .iload_n 1), (129, .bipush 64), (131, .imul), (132, .iload_n 2), (133, .iadd), (134, .iload 4), (136, .i2b), (137, .bastore), (138, .aload_n 0), (139, .getfield 26), (142, .getfield 115)], [(145, .iload_n 1), (146, .iload 4), (148, .iconst 1), (149, .iadd), (150, .iastore), (151, .iload 5), (153, .ifCond .eq 6), (156, .iload 5), (158, .ireturn), (159, .iinc 4 1)], [(162, .goto (-142)), (165, .bipush (-24)), (167, .ireturn)]]
theorem uX4_seekPlace_1 : ∀ r ∈ tX4_seekPlace_1, xchk1 cX4_seekPlace r = true := fun r hr => List.all_eq_true.mp (by decide +kernel : (tX4_seekPlace_1.all (fun r => xchk1 cX4_seekPlace r)) = true) r hr
def tX4_seekPlace : List (List (Nat × Instr)) := tX4_seekPlace_0 ++ (tX4_seekPlace_1)
theorem uX4_seekPlace : ∀ r ∈ tX4_seekPlace, xchk1 cX4_seekPlace r = true := xap uX4_seekPlace_0 (uX4_seekPlace_1)
def tX4_seeks_0 : List (List (Nat × Instr)) := [[(0, .aload_n 0), (1, .getfield 22), (4, .getfield 69), (7, .iload_n 1), (8, .iaload), (9, .iconst 4), (10, .if_icmp .eq 17), (13, .aload_n 0), (14, .getfield 22)], [(17, .getfield 69), (20, .iload_n 1), (21, .iaload), (22, .bipush 11), (24, .if_icmp .ne 7), (27, .iconst 1), (28, .goto 4), (31, .iconst 0)], [(32, .ireturn)]]
theorem uX4_seeks_0 : ∀ r ∈ tX4_seeks_0, xchk1 cX4_seeks r = true := fun r hr => List.all_eq_true.mp (by decide +kernel : (tX4_seeks_0.all (fun r => xchk1 cX4_seeks r)) = true) r hr
def tX4_seeks : List (List (Nat × Instr)) := tX4_seeks_0
theorem uX4_seeks : ∀ r ∈ tX4_seeks, xchk1 cX4_seeks r = true := uX4_seeks_0
def tX4_tellHead_0 : List (List (Nat × Instr)) := [[(0, .aload_n 0), (1, .getfield 22), (4, .iload_n 1), (5, .invokevirtual 99), (8, .istore_n 3), (9, .aload_n 0), (10, .getfield 22), (13, .getfield 94)], [(16, .iload_n 1), (17, .iaload), (18, .istore 4), (20, .aload_n 0), (21, .getfield 26), (24, .getfield 122), (27, .iload_n 1), (28, .bipush 64), (30, .imul), (31, .iload_n 2)], [(32, .iadd), (33, .baload), (34, .istore 5), (36, .aload_n 0), (37, .getfield 22), (40, .getfield 69), (43, .iload_n 1), (44, .iaload), (45, .tableswitch 436 1 13 #[67, 89, 118, 335, 436, 158, 343, 436, 302, 227, 335, 312, 378])], [], [], [], [], [(112, .aload_n 0), (113, .iload 4), (115, .i2l), (116, .iload_n 2), (117, .i2l), (118, .aload_n 0), (119, .getfield 22), (122, .getfield 128), (125, .iload_n 1), (126, .iaload), (127, .i2l)]]
theorem uX4_tellHead_0 : ∀ r ∈ tX4_tellHead_0, xchk1 cX4_tellHead r = true := fun r hr => List.all_eq_true.mp (by decide +kernel : (tX4_tellHead_0.all (fun r => xchk1 cX4_tellHead r)) = true) r hr
def tX4_tellHead_1 : List (List (Nat × Instr)) := [[(128, .lmul), (129, .ladd), (130, .invokevirtual 131), (133, .ireturn), (134, .aload_n 0), (135, .iload_n 2), (136, .bipush 8), (138, .if_icmp .ge 20), (141, .aload_n 0), (142, .getfield 22)], [(145, .getfield 135), (148, .iload_n 1), (149, .bipush 8), (151, .imul), (152, .iload_n 2), (153, .iadd), (154, .laload), (155, .goto 4), (158, .lconst 0), (159, .invokevirtual 131)], [(162, .ireturn), (163, .aload_n 0), (164, .iload_n 3), (165, .iload_n 2), (166, .invokevirtual 34), (169, .istore 6), (171, .iload 6), (173, .iconst 1), (174, .if_icmp .ne 26)], [(177, .aload_n 0), (178, .aload_n 0), (179, .getfield 22), (182, .getfield 108), (185, .iload_n 1), (186, .iaload), (187, .aload_n 0), (188, .getfield 18), (191, .iload 4)], [(193, .i2l), (194, .invokevirtual 138), (197, .goto 5), (200, .iload 6), (202, .ireturn), (203, .aload_n 0), (204, .iload_n 3), (205, .iload_n 2), (206, .invokevirtual 34)], [(209, .istore 6), (211, .iload 6), (213, .iconst 1), (214, .if_icmp .eq 6), (217, .iload 6), (219, .ireturn), (220, .aload_n 0), (221, .getfield 18)], [(224, .lstore 7), (226, .aload_n 0), (227, .aload_n 0), (228, .getfield 22), (231, .iload_n 1), (232, .invokevirtual 105), (235, .iload_n 2), (236, .invokevirtual 34), (239, .istore 6)], [(241, .iload 6), (243, .iconst 1), (244, .if_icmp .ne 25), (247, .aload_n 0), (248, .aload_n 0), (249, .getfield 22), (252, .getfield 108), (255, .iload_n 1)]]
theorem uX4_tellHead_1 : ∀ r ∈ tX4_tellHead_1, xchk1 cX4_tellHead r = true := fun r hr => List.all_eq_true.mp (by decide +kernel : (tX4_tellHead_1.all (fun r => xchk1 cX4_tellHead r)) = true) r hr
def tX4_tellHead_2 : List (List (Nat × Instr)) := [[(256, .iaload), (257, .lload 7), (259, .aload_n 0), (260, .getfield 18), (263, .invokevirtual 138), (266, .goto 5), (269, .iload 6), (271, .ireturn)], [(272, .iload_n 2), (273, .ifCond .ne 10), (276, .aload_n 0), (277, .iload_n 3), (278, .iconst 0), (279, .invokevirtual 34), (282, .ireturn), (283, .aload_n 0), (284, .iload_n 1), (285, .iload_n 2), (286, .iconst 1), (287, .isub)], [(288, .invokevirtual 34), (291, .istore 6), (293, .iload 6), (295, .iconst 1), (296, .if_icmp .eq 6), (299, .iload 6), (301, .ireturn), (302, .aload_n 0), (303, .getfield 18)], [(306, .lstore 7), (308, .aload_n 0), (309, .iload_n 3), (310, .iload_n 2), (311, .invokevirtual 34), (314, .istore 6), (316, .iload 6), (318, .iconst 1), (319, .if_icmp .ne 25)], [(322, .aload_n 0), (323, .aload_n 0), (324, .getfield 22), (327, .getfield 108), (330, .iload_n 1), (331, .iaload), (332, .lload 7), (334, .aload_n 0), (335, .getfield 18)], [(338, .invokevirtual 138), (341, .goto 5), (344, .iload 6), (346, .ireturn), (347, .aload_n 0), (348, .iload_n 3), (349, .iload_n 2), (350, .iload 4)], [(352, .iadd), (353, .invokevirtual 34), (356, .ireturn), (357, .iload_n 2), (358, .ifCond .ne 13), (361, .aload_n 0), (362, .iload 4), (364, .i2l), (365, .invokevirtual 131)], [(368, .goto 11), (371, .aload_n 0), (372, .iload_n 3), (373, .iload_n 2), (374, .iconst 1), (375, .isub), (376, .invokevirtual 34), (379, .ireturn), (380, .aload_n 0), (381, .iload_n 3), (382, .iload 5)]]
theorem uX4_tellHead_2 : ∀ r ∈ tX4_tellHead_2, xchk1 cX4_tellHead r = true := fun r hr => List.all_eq_true.mp (by decide +kernel : (tX4_tellHead_2.all (fun r => xchk1 cX4_tellHead r)) = true) r hr
def tX4_tellHead_3 : List (List (Nat × Instr)) := [[(384, .invokevirtual 34), (387, .ireturn), (388, .iload 5), (390, .bipush 64), (392, .if_icmp .ge 13), (395, .aload_n 0), (396, .iload_n 3), (397, .iload 5), (399, .invokevirtual 34)], [(402, .goto 20), (405, .aload_n 0), (406, .aload_n 0), (407, .getfield 22), (410, .iload_n 1), (411, .invokevirtual 105), (414, .iload 5)], [(416, .bipush 64), (418, .isub), (419, .invokevirtual 34), (422, .ireturn), (423, .lconst 0), (424, .lstore 7), (426, .iconst 0), (427, .istore 9), (429, .iload 9), (431, .iload 4)], [(433, .if_icmp .ge 41), (436, .aload_n 0), (437, .iload_n 3), (438, .iload 4), (440, .iload_n 2), (441, .imul), (442, .iload 9), (444, .iadd), (445, .invokevirtual 34)], [(448, .istore 6), (450, .iload 6), (452, .iconst 1), (453, .if_icmp .eq 6), (456, .iload 6), (458, .ireturn), (459, .lload 7), (461, .aload_n 0), (462, .getfield 18)], [(465, .ladd), (466, .lstore 7), (468, .iinc 9 1), (471, .goto (-42)), (474, .aload_n 0), (475, .lload 7), (477, .invokevirtual 131)], [(480, .ireturn), (481, .aload_n 0), (482, .iload_n 3), (483, .iload_n 2), (484, .invokevirtual 34), (487, .ireturn)]]
theorem uX4_tellHead_3 : ∀ r ∈ tX4_tellHead_3, xchk1 cX4_tellHead r = true := fun r hr => List.all_eq_true.mp (by decide +kernel : (tX4_tellHead_3.all (fun r => xchk1 cX4_tellHead r)) = true) r hr
def tX4_tellHead : List (List (Nat × Instr)) := tX4_tellHead_0 ++ (tX4_tellHead_1 ++ (tX4_tellHead_2 ++ (tX4_tellHead_3)))
theorem uX4_tellHead : ∀ r ∈ tX4_tellHead, xchk1 cX4_tellHead r = true := xap uX4_tellHead_0 (xap uX4_tellHead_1 (xap uX4_tellHead_2 (uX4_tellHead_3)))
def tX4_tellNumber_0 : List (List (Nat × Instr)) := [[(0, .aload_n 0), (1, .lload_n 1), (2, .putfield 18), (5, .iconst 1), (6, .ireturn)]]
theorem uX4_tellNumber_0 : ∀ r ∈ tX4_tellNumber_0, xchk1 cX4_tellNumber r = true := fun r hr => List.all_eq_true.mp (by decide +kernel : (tX4_tellNumber_0.all (fun r => xchk1 cX4_tellNumber r)) = true) r hr
def tX4_tellNumber : List (List (Nat × Instr)) := tX4_tellNumber_0
theorem uX4_tellNumber : ∀ r ∈ tX4_tellNumber, xchk1 cX4_tellNumber r = true := uX4_tellNumber_0
def tX4_tellPlace_0 : List (List (Nat × Instr)) := [[(0, .aload_n 0), (1, .getfield 22), (4, .iload_n 1), (5, .invokevirtual 99), (8, .istore_n 3), (9, .aload_n 0), (10, .getfield 22), (13, .getfield 94)], [(16, .iload_n 1), (17, .iaload), (18, .istore 4), (20, .aload_n 0), (21, .getfield 22), (24, .getfield 69), (27, .iload_n 1), (28, .iaload), (29, .tableswitch 231 1 13 #[67, 69, 231, 231, 179, 88, 231, 121, 138, 231, 231, 148, 165])], [], [], [], [], [(96, .iconst 1), (97, .ireturn), (98, .iload_n 2), (99, .aload_n 0), (100, .getfield 22), (103, .getfield 102), (106, .iload_n 1), (107, .iaload), (108, .if_icmp .ge 7), (111, .iconst 1)], [(112, .goto 4), (115, .iconst 0), (116, .ireturn), (117, .aload_n 0), (118, .iload_n 3), (119, .iload_n 2), (120, .invokevirtual 30), (123, .istore 5), (125, .iload 5), (127, .iconst 1)]]
theorem uX4_tellPlace_0 : ∀ r ∈ tX4_tellPlace_0, xchk1 cX4_tellPlace r = true := fun r hr => List.all_eq_true.mp (by decide +kernel : (tX4_tellPlace_0.all (fun r => xchk1 cX4_tellPlace r)) = true) r hr
def tX4_tellPlace_1 : List (List (Nat × Instr)) := [[(128, .if_icmp .ne 19), (131, .aload_n 0), (132, .aload_n 0), (133, .getfield 22), (136, .iload_n 1), (137, .invokevirtual 105), (140, .iload_n 2), (141, .invokevirtual 30)], [(144, .goto 5), (147, .iload 5), (149, .ireturn), (150, .iload_n 2), (151, .iload 4), (153, .if_icmp .ge 12), (156, .aload_n 0), (157, .iload_n 3), (158, .iload_n 2), (159, .invokevirtual 30)], [(162, .goto 4), (165, .iconst 0), (166, .ireturn), (167, .aload_n 0), (168, .iload_n 3), (169, .iload_n 2), (170, .iload 4), (172, .iadd), (173, .invokevirtual 30)], [(176, .ireturn), (177, .iload_n 2), (178, .ifCond .ne 7), (181, .iconst 1), (182, .goto 11), (185, .aload_n 0), (186, .iload_n 3), (187, .iload_n 2), (188, .iconst 1), (189, .isub), (190, .invokevirtual 30)], [(193, .ireturn), (194, .aload_n 0), (195, .iload_n 3), (196, .iload 4), (198, .iload_n 2), (199, .iconst 1), (200, .iadd), (201, .imul), (202, .iconst 1), (203, .isub), (204, .invokevirtual 30), (207, .ireturn)], [(208, .aload_n 0), (209, .iload_n 3), (210, .iload_n 2), (211, .invokevirtual 30), (214, .istore 5), (216, .iload 5), (218, .iconst 1), (219, .if_icmp .ne 11), (222, .aload_n 0), (223, .iload_n 3)], [(224, .iload_n 2), (225, .invokevirtual 34), (228, .istore 5), (230, .iload 5), (232, .iconst 1), (233, .if_icmp .ne 24), (236, .aload_n 0), (237, .getfield 22)], [(240, .getfield 108), (243, .iload_n 1), (244, .iaload), (245, .aload_n 0), (246, .getfield 18), (249, .iload 4), (251, .invokestatic 111), (254, .goto 5)]]
theorem uX4_tellPlace_1 : ∀ r ∈ tX4_tellPlace_1, xchk1 cX4_tellPlace r = true := fun r hr => List.all_eq_true.mp (by decide +kernel : (tX4_tellPlace_1.all (fun r => xchk1 cX4_tellPlace r)) = true) r hr
def tX4_tellPlace_2 : List (List (Nat × Instr)) := [[(257, .iload 5), (259, .ireturn), (260, .aload_n 0), (261, .iload_n 3), (262, .iload_n 2), (263, .invokevirtual 30), (266, .ireturn)]]
theorem uX4_tellPlace_2 : ∀ r ∈ tX4_tellPlace_2, xchk1 cX4_tellPlace r = true := fun r hr => List.all_eq_true.mp (by decide +kernel : (tX4_tellPlace_2.all (fun r => xchk1 cX4_tellPlace r)) = true) r hr
def tX4_tellPlace : List (List (Nat × Instr)) := tX4_tellPlace_0 ++ (tX4_tellPlace_1 ++ (tX4_tellPlace_2))
theorem uX4_tellPlace : ∀ r ∈ tX4_tellPlace, xchk1 cX4_tellPlace r = true := xap uX4_tellPlace_0 (xap uX4_tellPlace_1 (uX4_tellPlace_2))
def tX5_allParts_0 : List (List (Nat × Instr)) := [[(0, .iconst 0), (1, .istore_n 1), (2, .iconst 0), (3, .istore_n 2), (4, .iload_n 2), (5, .aload_n 0), (6, .getfield 9), (9, .arraylength), (10, .if_icmp .ge 18), (13, .iload_n 1), (14, .aload_n 0), (15, .getfield 9)], [(18, .iload_n 2), (19, .iaload), (20, .iadd), (21, .istore_n 1), (22, .iinc 2 1), (25, .goto (-21)), (28, .iload_n 1), (29, .ireturn)]]
theorem uX5_allParts_0 : ∀ r ∈ tX5_allParts_0, xchk1 cX5_allParts r = true := fun r hr => List.all_eq_true.mp (by decide +kernel : (tX5_allParts_0.all (fun r => xchk1 cX5_allParts r)) = true) r hr
def tX5_allParts : List (List (Nat × Instr)) := tX5_allParts_0
theorem uX5_allParts : ∀ r ∈ tX5_allParts, xchk1 cX5_allParts r = true := uX5_allParts_0
def tX5_clearPart_0 : List (List (Nat × Instr)) := [[(0, .aload_n 0), (1, .getfield 15), (4, .iload_n 1), (5, .iload_n 2), (6, .iastore), (7, .aload_n 0), (8, .getfield 18), (11, .iload_n 1), (12, .iconst 0), (13, .iastore), (14, .aload_n 0), (15, .getfield 21)], [(18, .iload_n 1), (19, .iconst 0), (20, .iastore), (21, .aload_n 0), (22, .getfield 24), (25, .iload_n 1), (26, .iconst 0), (27, .iastore), (28, .aload_n 0), (29, .getfield 30)], [(32, .iload_n 1), (33, .iconst 0), (34, .iastore), (35, .return_)]]
theorem uX5_clearPart_0 : ∀ r ∈ tX5_clearPart_0, xchk1 cX5_clearPart r = true := fun r hr => List.all_eq_true.mp (by decide +kernel : (tX5_clearPart_0.all (fun r => xchk1 cX5_clearPart r)) = true) r hr
def tX5_clearPart : List (List (Nat × Instr)) := tX5_clearPart_0
theorem uX5_clearPart : ∀ r ∈ tX5_clearPart, xchk1 cX5_clearPart r = true := uX5_clearPart_0
def tX5_close_0 : List (List (Nat × Instr)) := [[(0, .aload_n 0), (1, .getfield 9), (4, .iload_n 1), (5, .iload_n 2), (6, .iastore), (7, .iload_n 1), (8, .bipush 24), (10, .imul), (11, .istore_n 3), (12, .iload_n 3), (13, .iload_n 2), (14, .iadd), (15, .iconst 1)], [(16, .isub), (17, .istore 4), (19, .iload 4), (21, .iload_n 3), (22, .if_icmp .lt 75), (25, .aload_n 0), (26, .getfield 15), (29, .iload 4), (31, .iaload)], [(32, .invokestatic 37), (35, .istore 5), (37, .iconst 1), (38, .istore 6), (40, .iconst 0), (41, .istore 7), (43, .iload 7), (45, .iload 5), (47, .if_icmp .ge 35)], [(50, .iload 4), (52, .iload 6), (54, .iadd), (55, .iload_n 3), (56, .iload_n 2), (57, .iadd), (58, .if_icmp .ge 24), (61, .iload 6), (63, .aload_n 0)], [(64, .getfield 27), (67, .iload 4), (69, .iload 6), (71, .iadd), (72, .iaload), (73, .iadd), (74, .istore 6), (76, .iinc 7 1), (79, .goto (-36))], [(82, .aload_n 0), (83, .getfield 27), (86, .iload 4), (88, .iload 6), (90, .iastore), (91, .iinc 4 (-1)), (94, .goto (-75))], [(97, .return_)]]
theorem uX5_close_0 : ∀ r ∈ tX5_close_0, xchk1 cX5_close r = true := fun r hr => List.all_eq_true.mp (by decide +kernel : (tX5_close_0.all (fun r => xchk1 cX5_close r)) = true) r hr
def tX5_close : List (List (Nat × Instr)) := tX5_close_0
theorem uX5_close : ∀ r ∈ tX5_close, xchk1 cX5_close r = true := uX5_close_0
def tX5_filledStreams_0 : List (List (Nat × Instr)) := [[(0, .iconst 0), (1, .istore_n 1), (2, .iconst 0), (3, .istore_n 2), (4, .iload_n 2), (5, .aload_n 0), (6, .getfield 9), (9, .arraylength), (10, .if_icmp .ge 21), (13, .aload_n 0), (14, .getfield 9)], [(17, .iload_n 2), (18, .iaload), (19, .ifCond .le 6), (22, .iinc 1 1), (25, .iinc 2 1), (28, .goto (-24)), (31, .iload_n 1)], [(32, .ireturn)]]
theorem uX5_filledStreams_0 : ∀ r ∈ tX5_filledStreams_0, xchk1 cX5_filledStreams r = true := fun r hr => List.all_eq_true.mp (by decide +kernel : (tX5_filledStreams_0.all (fun r => xchk1 cX5_filledStreams r)) = true) r hr
def tX5_filledStreams : List (List (Nat × Instr)) := tX5_filledStreams_0
theorem uX5_filledStreams : ∀ r ∈ tX5_filledStreams, xchk1 cX5_filledStreams r = true := uX5_filledStreams_0
def tX5_firstRow_0 : List (List (Nat × Instr)) := [[(0, .iload_n 1), (1, .iconst 1), (2, .iadd), (3, .ireturn)]]
theorem uX5_firstRow_0 : ∀ r ∈ tX5_firstRow_0, xchk1 cX5_firstRow r = true := fun r hr => List.all_eq_true.mp (by decide +kernel : (tX5_firstRow_0.all (fun r => xchk1 cX5_firstRow r)) = true) r hr
def tX5_firstRow : List (List (Nat × Instr)) := tX5_firstRow_0
theorem uX5_firstRow : ∀ r ∈ tX5_firstRow, xchk1 cX5_firstRow r = true := uX5_firstRow_0
def tX5_init_0 : List (List (Nat × Instr)) := [[(0, .aload_n 0), (1, .invokespecial 3), (4, .iload_n 1), (5, .bipush 24), (7, .imul), (8, .istore_n 2), (9, .aload_n 0), (10, .iload_n 1), (11, .newarray .int), (13, .putfield 9)], [(16, .aload_n 0), (17, .iload_n 2), (18, .newarray .int), (20, .putfield 15), (23, .aload_n 0), (24, .iload_n 2), (25, .newarray .int), (27, .putfield 18), (30, .aload_n 0), (31, .iload_n 2)], [(32, .newarray .int), (34, .putfield 21), (37, .aload_n 0), (38, .iload_n 2), (39, .newarray .int), (41, .putfield 24), (44, .aload_n 0), (45, .iload_n 2), (46, .newarray .int)], [(48, .putfield 27), (51, .aload_n 0), (52, .iload_n 2), (53, .newarray .int), (55, .putfield 30), (58, .aload_n 0), (59, .iload_n 2), (60, .bipush 8), (62, .imul), (63, .newarray .long)], [(65, .putfield 33), (68, .return_)]]
theorem uX5_init_0 : ∀ r ∈ tX5_init_0, xchk1 cX5_init r = true := fun r hr => List.all_eq_true.mp (by decide +kernel : (tX5_init_0.all (fun r => xchk1 cX5_init r)) = true) r hr
def tX5_init : List (List (Nat × Instr)) := tX5_init_0
theorem uX5_init : ∀ r ∈ tX5_init, xchk1 cX5_init r = true := uX5_init_0
def tX5_secondRow_0 : List (List (Nat × Instr)) := [[(0, .iload_n 1), (1, .iconst 1), (2, .iadd), (3, .aload_n 0), (4, .getfield 27), (7, .arraylength), (8, .if_icmp .ge 18), (11, .iload_n 1), (12, .iconst 1), (13, .iadd), (14, .aload_n 0), (15, .getfield 27)], [(18, .iload_n 1), (19, .iconst 1), (20, .iadd), (21, .iaload), (22, .iadd), (23, .goto 6), (26, .iload_n 1), (27, .iconst 1), (28, .iadd), (29, .ireturn)]]
theorem uX5_secondRow_0 : ∀ r ∈ tX5_secondRow_0, xchk1 cX5_secondRow r = true := fun r hr => List.all_eq_true.mp (by decide +kernel : (tX5_secondRow_0.all (fun r => xchk1 cX5_secondRow r)) = true) r hr
def tX5_secondRow : List (List (Nat × Instr)) := tX5_secondRow_0
theorem uX5_secondRow : ∀ r ∈ tX5_secondRow, xchk1 cX5_secondRow r = true := uX5_secondRow_0
def tX5_takeAll_0 : List (List (Nat × Instr)) := [[(0, .iconst 0), (1, .istore_n 2), (2, .iload_n 2), (3, .aload_n 0), (4, .getfield 9), (7, .arraylength), (8, .if_icmp .ge 25), (11, .iload_n 2), (12, .aload_n 1), (13, .getfield 9)], [(16, .arraylength), (17, .if_icmp .ge 16), (20, .aload_n 0), (21, .aload_n 1), (22, .iload_n 2), (23, .iload_n 2), (24, .invokevirtual 47), (27, .iinc 2 1), (30, .goto (-28))], [(33, .return_)]]
theorem uX5_takeAll_0 : ∀ r ∈ tX5_takeAll_0, xchk1 cX5_takeAll r = true := fun r hr => List.all_eq_true.mp (by decide +kernel : (tX5_takeAll_0.all (fun r => xchk1 cX5_takeAll r)) = true) r hr
def tX5_takeAll : List (List (Nat × Instr)) := tX5_takeAll_0
theorem uX5_takeAll : ∀ r ∈ tX5_takeAll, xchk1 cX5_takeAll r = true := uX5_takeAll_0
def tX5_takeParts_0 : List (List (Nat × Instr)) := [[(0, .aload_n 1), (1, .getfield 15), (4, .iload_n 2), (5, .aload_n 0), (6, .getfield 15), (9, .iload_n 3), (10, .iload 4), (12, .invokestatic 51), (15, .aload_n 1)], [(16, .getfield 18), (19, .iload_n 2), (20, .aload_n 0), (21, .getfield 18), (24, .iload_n 3), (25, .iload 4), (27, .invokestatic 51), (30, .aload_n 1), (31, .getfield 21)], [(34, .iload_n 2), (35, .aload_n 0), (36, .getfield 21), (39, .iload_n 3), (40, .iload 4), (42, .invokestatic 51), (45, .aload_n 1), (46, .getfield 24)], [(49, .iload_n 2), (50, .aload_n 0), (51, .getfield 24), (54, .iload_n 3), (55, .iload 4), (57, .invokestatic 51), (60, .aload_n 1), (61, .getfield 27)], [(64, .iload_n 2), (65, .aload_n 0), (66, .getfield 27), (69, .iload_n 3), (70, .iload 4), (72, .invokestatic 51), (75, .aload_n 1), (76, .getfield 30), (79, .iload_n 2)], [(80, .aload_n 0), (81, .getfield 30), (84, .iload_n 3), (85, .iload 4), (87, .invokestatic 51), (90, .aload_n 1), (91, .getfield 33), (94, .iload_n 2), (95, .bipush 8)], [(97, .imul), (98, .aload_n 0), (99, .getfield 33), (102, .iload_n 3), (103, .bipush 8), (105, .imul), (106, .iload 4), (108, .bipush 8), (110, .imul), (111, .invokestatic 51)], [(114, .return_)]]
theorem uX5_takeParts_0 : ∀ r ∈ tX5_takeParts_0, xchk1 cX5_takeParts r = true := fun r hr => List.all_eq_true.mp (by decide +kernel : (tX5_takeParts_0.all (fun r => xchk1 cX5_takeParts r)) = true) r hr
def tX5_takeParts : List (List (Nat × Instr)) := tX5_takeParts_0
theorem uX5_takeParts : ∀ r ∈ tX5_takeParts, xchk1 cX5_takeParts r = true := uX5_takeParts_0
def tX5_takeStream_0 : List (List (Nat × Instr)) := [[(0, .aload_n 0), (1, .getfield 9), (4, .iload_n 3), (5, .aload_n 1), (6, .getfield 9), (9, .iload_n 2), (10, .iaload), (11, .iastore), (12, .aload_n 0), (13, .aload_n 1), (14, .iload_n 2), (15, .bipush 24)], [(17, .imul), (18, .iload_n 3), (19, .bipush 24), (21, .imul), (22, .aload_n 0), (23, .getfield 9), (26, .iload_n 3), (27, .iaload), (28, .invokevirtual 43), (31, .return_)]]
theorem uX5_takeStream_0 : ∀ r ∈ tX5_takeStream_0, xchk1 cX5_takeStream r = true := fun r hr => List.all_eq_true.mp (by decide +kernel : (tX5_takeStream_0.all (fun r => xchk1 cX5_takeStream r)) = true) r hr
def tX5_takeStream : List (List (Nat × Instr)) := tX5_takeStream_0
theorem uX5_takeStream : ∀ r ∈ tX5_takeStream, xchk1 cX5_takeStream r = true := uX5_takeStream_0
def tX6_allHeads_0 : List (List (Nat × Instr)) := [[(0, .iconst 0), (1, .istore_n 1), (2, .iconst 0), (3, .istore_n 2), (4, .iload_n 2), (5, .aload_n 0), (6, .getfield 9), (9, .if_icmp .ge 23), (12, .iload_n 1), (13, .aload_n 0), (14, .getfield 19)], [(17, .aload_n 0), (18, .getfield 49), (21, .iload_n 2), (22, .iaload), (23, .iaload), (24, .iadd), (25, .istore_n 1), (26, .iinc 2 1), (29, .goto (-25))], [(32, .iload_n 1), (33, .ireturn)]]
theorem uX6_allHeads_0 : ∀ r ∈ tX6_allHeads_0, xchk1 cX6_allHeads r = true := fun r hr => List.all_eq_true.mp (by decide +kernel : (tX6_allHeads_0.all (fun r => xchk1 cX6_allHeads r)) = true) r hr
def tX6_allHeads : List (List (Nat × Instr)) := tX6_allHeads_0
theorem uX6_allHeads : ∀ r ∈ tX6_allHeads, xchk1 cX6_allHeads r = true := uX6_allHeads_0
def tX6_allPlaces_0 : List (List (Nat × Instr)) := [[(0, .iconst 0), (1, .istore_n 1), (2, .iconst 0), (3, .istore_n 2), (4, .iload_n 2), (5, .aload_n 0), (6, .getfield 9), (9, .if_icmp .ge 23), (12, .iload_n 1), (13, .aload_n 0), (14, .getfield 15)], [(17, .aload_n 0), (18, .getfield 49), (21, .iload_n 2), (22, .iaload), (23, .iaload), (24, .iadd), (25, .istore_n 1), (26, .iinc 2 1), (29, .goto (-25))], [(32, .iload_n 1), (33, .ireturn)]]
theorem uX6_allPlaces_0 : ∀ r ∈ tX6_allPlaces_0, xchk1 cX6_allPlaces r = true := fun r hr => List.all_eq_true.mp (by decide +kernel : (tX6_allPlaces_0.all (fun r => xchk1 cX6_allPlaces r)) = true) r hr
def tX6_allPlaces : List (List (Nat × Instr)) := tX6_allPlaces_0
theorem uX6_allPlaces : ∀ r ∈ tX6_allPlaces, xchk1 cX6_allPlaces r = true := uX6_allPlaces_0
def tX6_init_0 : List (List (Nat × Instr)) := [[(0, .aload_n 0), (1, .invokespecial 3), (4, .aload_n 0), (5, .iconst 0), (6, .putfield 9), (9, .aload_n 0), (10, .iload_n 1), (11, .newarray .int), (13, .putfield 15)], [(16, .aload_n 0), (17, .iload_n 1), (18, .newarray .int), (20, .putfield 19), (23, .aload_n 0), (24, .iload_n 1), (25, .newarray .int), (27, .putfield 22), (30, .aload_n 0), (31, .iload_n 1)], [(32, .newarray .boolean), (34, .putfield 25), (37, .aload_n 0), (38, .iload_n 1), (39, .newarray .int), (41, .putfield 29), (44, .aload_n 0), (45, .iload_n 1), (46, .newarray .int)], [(48, .putfield 32), (51, .aload_n 0), (52, .iload_n 1), (53, .bipush 64), (55, .imul), (56, .newarray .byte), (58, .putfield 35), (61, .aload_n 0), (62, .iload_n 1), (63, .bipush 64)], [(65, .imul), (66, .newarray .long), (68, .putfield 39), (71, .aload_n 0), (72, .iload_n 1), (73, .bipush 64), (75, .imul), (76, .newarray .byte), (78, .putfield 43)], [(81, .aload_n 0), (82, .iload_n 1), (83, .newarray .boolean), (85, .putfield 46), (88, .aload_n 0), (89, .iload_n 1), (90, .newarray .int), (92, .putfield 49), (95, .iconst 0)], [(96, .istore_n 2), (97, .iload_n 2), (98, .iload_n 1), (99, .if_icmp .ge 16), (102, .aload_n 0), (103, .getfield 22), (106, .iload_n 2), (107, .iconst 1), (108, .iastore), (109, .iinc 2 1)], [(112, .goto (-15)), (115, .return_)]]
theorem uX6_init_0 : ∀ r ∈ tX6_init_0, xchk1 cX6_init r = true := fun r hr => List.all_eq_true.mp (by decide +kernel : (tX6_init_0.all (fun r => xchk1 cX6_init r)) = true) r hr
def tX6_init : List (List (Nat × Instr)) := tX6_init_0
theorem uX6_init : ∀ r ∈ tX6_init, xchk1 cX6_init r = true := uX6_init_0
def tX6_meet_0 : List (List (Nat × Instr)) := [[(0, .aload_n 0), (1, .getfield 46), (4, .iload_n 1), (5, .baload), (6, .ifCond .ne 15), (9, .aload_n 0), (10, .getfield 9), (13, .aload_n 0), (14, .getfield 49)], [(17, .arraylength), (18, .if_icmp .lt 4), (21, .return_), (22, .aload_n 0), (23, .getfield 46), (26, .iload_n 1), (27, .iconst 1), (28, .bastore), (29, .aload_n 0), (30, .getfield 49)], [(33, .aload_n 0), (34, .getfield 9), (37, .iload_n 1), (38, .iastore), (39, .aload_n 0), (40, .dup), (41, .getfield 9), (44, .iconst 1), (45, .iadd), (46, .putfield 9)], [(49, .return_)]]
theorem uX6_meet_0 : ∀ r ∈ tX6_meet_0, xchk1 cX6_meet r = true := fun r hr => List.all_eq_true.mp (by decide +kernel : (tX6_meet_0.all (fun r => xchk1 cX6_meet r)) = true) r hr
def tX6_meet : List (List (Nat × Instr)) := tX6_meet_0
theorem uX6_meet : ∀ r ∈ tX6_meet, xchk1 cX6_meet r = true := uX6_meet_0
def tX6_takeAll_0 : List (List (Nat × Instr)) := [[(0, .aload_n 0), (1, .invokevirtual 56), (4, .iconst 0), (5, .istore_n 2), (6, .iload_n 2), (7, .aload_n 1), (8, .getfield 9), (11, .if_icmp .ge 20), (14, .aload_n 0), (15, .aload_n 1)], [(16, .aload_n 1), (17, .getfield 49), (20, .iload_n 2), (21, .iaload), (22, .invokevirtual 59), (25, .iinc 2 1), (28, .goto (-22)), (31, .return_)]]
theorem uX6_takeAll_0 : ∀ r ∈ tX6_takeAll_0, xchk1 cX6_takeAll r = true := fun r hr => List.all_eq_true.mp (by decide +kernel : (tX6_takeAll_0.all (fun r => xchk1 cX6_takeAll r)) = true) r hr
def tX6_takeAll : List (List (Nat × Instr)) := tX6_takeAll_0
theorem uX6_takeAll : ∀ r ∈ tX6_takeAll, xchk1 cX6_takeAll r = true := uX6_takeAll_0
def tX6_takePart_0 : List (List (Nat × Instr)) := [[(0, .aload_n 1), (1, .getfield 15), (4, .iload_n 2), (5, .iaload), (6, .istore_n 3), (7, .iload_n 2), (8, .bipush 64), (10, .imul), (11, .istore 4), (13, .aload_n 0), (14, .iload_n 2), (15, .invokevirtual 63)], [(18, .aload_n 0), (19, .getfield 15), (22, .iload_n 2), (23, .iload_n 3), (24, .iastore), (25, .aload_n 0), (26, .getfield 19), (29, .iload_n 2), (30, .aload_n 1), (31, .getfield 19)], [(34, .iload_n 2), (35, .iaload), (36, .iastore), (37, .aload_n 0), (38, .getfield 22), (41, .iload_n 2), (42, .aload_n 1), (43, .getfield 22), (46, .iload_n 2), (47, .iaload)], [(48, .iastore), (49, .aload_n 0), (50, .getfield 29), (53, .iload_n 2), (54, .aload_n 1), (55, .getfield 29), (58, .iload_n 2), (59, .iaload), (60, .iastore), (61, .aload_n 0), (62, .getfield 32)], [(65, .iload_n 2), (66, .aload_n 1), (67, .getfield 32), (70, .iload_n 2), (71, .iaload), (72, .iastore), (73, .aload_n 1), (74, .getfield 35), (77, .iload 4), (79, .aload_n 0)], [(80, .getfield 35), (83, .iload 4), (85, .iload_n 3), (86, .invokestatic 66), (89, .aload_n 1), (90, .getfield 39), (93, .iload 4), (95, .aload_n 0)], [(96, .getfield 39), (99, .iload 4), (101, .iload_n 3), (102, .invokestatic 66), (105, .aload_n 1), (106, .getfield 43), (109, .iload 4), (111, .aload_n 0)], [(112, .getfield 43), (115, .iload 4), (117, .iload_n 3), (118, .invokestatic 66), (121, .return_)]]
theorem uX6_takePart_0 : ∀ r ∈ tX6_takePart_0, xchk1 cX6_takePart r = true := fun r hr => List.all_eq_true.mp (by decide +kernel : (tX6_takePart_0.all (fun r => xchk1 cX6_takePart r)) = true) r hr
def tX6_takePart : List (List (Nat × Instr)) := tX6_takePart_0
theorem uX6_takePart : ∀ r ∈ tX6_takePart, xchk1 cX6_takePart r = true := uX6_takePart_0
def tX6_untell_0 : List (List (Nat × Instr)) := [[(0, .iconst 0), (1, .istore_n 1), (2, .iload_n 1), (3, .aload_n 0), (4, .getfield 9), (7, .if_icmp .ge 19), (10, .aload_n 0), (11, .aload_n 0), (12, .getfield 49), (15, .iload_n 1)], [(16, .iaload), (17, .invokevirtual 52), (20, .iinc 1 1), (23, .goto (-21)), (26, .aload_n 0), (27, .iconst 0), (28, .putfield 9), (31, .return_)]]
theorem uX6_untell_0 : ∀ r ∈ tX6_untell_0, xchk1 cX6_untell r = true := fun r hr => List.all_eq_true.mp (by decide +kernel : (tX6_untell_0.all (fun r => xchk1 cX6_untell r)) = true) r hr
def tX6_untell : List (List (Nat × Instr)) := tX6_untell_0
theorem uX6_untell : ∀ r ∈ tX6_untell, xchk1 cX6_untell r = true := uX6_untell_0
def tX6_untellPart_0 : List (List (Nat × Instr)) := [[(0, .iload_n 1), (1, .bipush 64), (3, .imul), (4, .istore_n 2), (5, .iconst 0), (6, .istore_n 3), (7, .iload_n 3), (8, .aload_n 0), (9, .getfield 15), (12, .iload_n 1), (13, .iaload), (14, .if_icmp .ge 18)], [(17, .aload_n 0), (18, .getfield 35), (21, .iload_n 2), (22, .iload_n 3), (23, .iadd), (24, .iconst 0), (25, .bastore), (26, .iinc 3 1), (29, .goto (-22))], [(32, .aload_n 0), (33, .getfield 15), (36, .iload_n 1), (37, .iconst 0), (38, .iastore), (39, .aload_n 0), (40, .getfield 19), (43, .iload_n 1), (44, .iconst 0), (45, .iastore), (46, .aload_n 0), (47, .getfield 22)], [(50, .iload_n 1), (51, .iconst 1), (52, .iastore), (53, .aload_n 0), (54, .getfield 25), (57, .iload_n 1), (58, .iconst 0), (59, .bastore), (60, .aload_n 0), (61, .getfield 29)], [(64, .iload_n 1), (65, .iconst 0), (66, .iastore), (67, .aload_n 0), (68, .getfield 32), (71, .iload_n 1), (72, .iconst 0), (73, .iastore), (74, .aload_n 0), (75, .getfield 46), (78, .iload_n 1), (79, .iconst 0)], [(80, .bastore), (81, .return_)]]
theorem uX6_untellPart_0 : ∀ r ∈ tX6_untellPart_0, xchk1 cX6_untellPart r = true := fun r hr => List.all_eq_true.mp (by decide +kernel : (tX6_untellPart_0.all (fun r => xchk1 cX6_untellPart r)) = true) r hr
def tX6_untellPart : List (List (Nat × Instr)) := tX6_untellPart_0
theorem uX6_untellPart : ∀ r ∈ tX6_untellPart, xchk1 cX6_untellPart r = true := uX6_untellPart_0
def tX7_back_0 : List (List (Nat × Instr)) := [[(0, .aload_n 0), (1, .getfield 72), (4, .ifCond .ne 6), (7, .bipush (-3)), (9, .ireturn), (10, .aload_n 0), (11, .getfield 28), (14, .aload_n 0), (15, .getfield 62)], [(18, .invokevirtual 244), (21, .aload_n 0), (22, .getfield 35), (25, .aload_n 0), (26, .getfield 65), (29, .invokevirtual 183)], [(32, .aload_n 0), (33, .aload_n 0), (34, .getfield 68), (37, .putfield 76), (40, .aload_n 0), (41, .getfield 28), (44, .invokevirtual 247), (47, .ireturn)]]
theorem uX7_back_0 : ∀ r ∈ tX7_back_0, xchk1 cX7_back r = true := fun r hr => List.all_eq_true.mp (by decide +kernel : (tX7_back_0.all (fun r => xchk1 cX7_back r)) = true) r hr
def tX7_back : List (List (Nat × Instr)) := tX7_back_0
theorem uX7_back : ∀ r ∈ tX7_back, xchk1 cX7_back r = true := uX7_back_0
def tX7_copy_0 : List (List (Nat × Instr)) := [[(0, .iload_n 1), (1, .invokestatic 215), (4, .ifCond .eq 10), (7, .iload_n 3), (8, .invokestatic 215), (11, .ifCond .ne 6), (14, .bipush (-2))], [(16, .ireturn), (17, .aload_n 0), (18, .getfield 54), (21, .iload_n 1), (22, .invokevirtual 233), (25, .ifCond .ne 14), (28, .aload_n 0), (29, .getfield 54)], [(32, .iload_n 3), (33, .invokevirtual 233), (36, .ifCond .eq 6), (39, .bipush (-11)), (41, .ireturn), (42, .aload_n 0), (43, .getfield 54), (46, .getfield 261)], [(49, .iload_n 1), (50, .iaload), (51, .aload_n 0), (52, .getfield 54), (55, .getfield 261), (58, .iload_n 3), (59, .iaload), (60, .if_icmp .eq 6), (63, .bipush (-13))], [(65, .ireturn), (66, .aload_n 0), (67, .getfield 54), (70, .iload_n 1), (71, .iload_n 2), (72, .iload 5), (74, .invokevirtual 254), (77, .ifCond .eq 18)], [(80, .aload_n 0), (81, .getfield 54), (84, .iload_n 3), (85, .iload 4), (87, .iload 5), (89, .invokevirtual 254), (92, .ifCond .ne 6), (95, .bipush (-12))], [(97, .ireturn), (98, .aload_n 0), (99, .getfield 54), (102, .iload_n 1), (103, .iload_n 2), (104, .iload_n 3), (105, .iload 4), (107, .iload 5), (109, .invokevirtual 264)], [(112, .iload 5), (114, .ireturn)]]
theorem uX7_copy_0 : ∀ r ∈ tX7_copy_0, xchk1 cX7_copy r = true := fun r hr => List.all_eq_true.mp (by decide +kernel : (tX7_copy_0.all (fun r => xchk1 cX7_copy r)) = true) r hr
def tX7_copy : List (List (Nat × Instr)) := tX7_copy_0
theorem uX7_copy : ∀ r ∈ tX7_copy, xchk1 cX7_copy r = true := uX7_copy_0
def tX7_count_0 : List (List (Nat × Instr)) := [[(0, .iload_n 1), (1, .tableswitch 93 0 6 #[43, 51, 59, 67, 75, 80, 88])], [], [(44, .aload_n 0), (45, .getfield 28)], [(48, .invokevirtual 247), (51, .ireturn), (52, .aload_n 0), (53, .getfield 28), (56, .invokevirtual 250), (59, .ireturn), (60, .aload_n 0), (61, .getfield 35)], [(64, .invokevirtual 190), (67, .ireturn), (68, .aload_n 0), (69, .getfield 35), (72, .invokevirtual 193), (75, .ireturn), (76, .aload_n 0), (77, .getfield 79)], [(80, .ireturn), (81, .aload_n 0), (82, .getfield 10), (85, .getfield 253), (88, .ireturn), (89, .aload_n 0), (90, .getfield 76), (93, .ireturn), (94, .bipush (-2))], [(96, .ireturn)]]
theorem uX7_count_0 : ∀ r ∈ tX7_count_0, xchk1 cX7_count r = true := fun r hr => List.all_eq_true.mp (by decide +kernel : (tX7_count_0.all (fun r => xchk1 cX7_count r)) = true) r hr
def tX7_count : List (List (Nat × Instr)) := tX7_count_0
theorem uX7_count : ∀ r ∈ tX7_count, xchk1 cX7_count r = true := uX7_count_0
def tX7_counted_0 : List (List (Nat × Instr)) := [[(0, .aload_n 0), (1, .aload_n 0), (2, .getfield 47), (5, .getfield 187), (8, .putfield 79), (11, .iload_n 1), (12, .ireturn)]]
theorem uX7_counted_0 : ∀ r ∈ tX7_counted_0, xchk1 cX7_counted r = true := fun r hr => List.all_eq_true.mp (by decide +kernel : (tX7_counted_0.all (fun r => xchk1 cX7_counted r)) = true) r hr
def tX7_counted : List (List (Nat × Instr)) := tX7_counted_0
theorem uX7_counted : ∀ r ∈ tX7_counted, xchk1 cX7_counted r = true := uX7_counted_0
def tX7_differ_0 : List (List (Nat × Instr)) := [[(0, .iload_n 1), (1, .invokestatic 86), (4, .ifCond .eq 20), (7, .iload_n 2), (8, .invokestatic 86), (11, .ifCond .eq 13), (14, .iload_n 3), (15, .ifCond .lt 9)], [(18, .iload_n 3), (19, .bipush 64), (21, .if_icmp .le 6), (24, .bipush (-2)), (26, .ireturn), (27, .aload_n 0), (28, .iload_n 1), (29, .invokevirtual 108)], [(32, .ifCond .ne 11), (35, .aload_n 0), (36, .iload_n 2), (37, .invokevirtual 108), (40, .ifCond .eq 6), (43, .bipush (-3)), (45, .ireturn), (46, .aload_n 0), (47, .getfield 47)], [(50, .aload_n 0), (51, .getfield 35), (54, .aload_n 0), (55, .getfield 76), (58, .invokevirtual 166), (61, .aload_n 0), (62, .aload_n 0), (63, .getfield 47)], [(66, .iload_n 1), (67, .iload_n 2), (68, .iload_n 3), (69, .invokevirtual 209), (72, .invokevirtual 173), (75, .ireturn)]]
theorem uX7_differ_0 : ∀ r ∈ tX7_differ_0, xchk1 cX7_differ r = true := fun r hr => List.all_eq_true.mp (by decide +kernel : (tX7_differ_0.all (fun r => xchk1 cX7_differ r)) = true) r hr
def tX7_differ : List (List (Nat × Instr)) := tX7_differ_0
theorem uX7_differ : ∀ r ∈ tX7_differ, xchk1 cX7_differ r = true := uX7_differ_0
def tX7_empty_0 : List (List (Nat × Instr)) := [[(0, .iload_n 1), (1, .invokestatic 86), (4, .ifCond .ne 6), (7, .bipush (-2)), (9, .ireturn), (10, .aload_n 0), (11, .getfield 28), (14, .getfield 104)], [(17, .iload_n 1), (18, .iaload), (19, .istore_n 2), (20, .aload_n 0), (21, .getfield 28), (24, .getfield 104), (27, .iload_n 1), (28, .iconst 0), (29, .iastore), (30, .aload_n 0), (31, .getfield 35)], [(34, .invokevirtual 101), (37, .iload_n 2), (38, .ireturn)]]
theorem uX7_empty_0 : ∀ r ∈ tX7_empty_0, xchk1 cX7_empty r = true := fun r hr => List.all_eq_true.mp (by decide +kernel : (tX7_empty_0.all (fun r => xchk1 cX7_empty r)) = true) r hr
def tX7_empty : List (List (Nat × Instr)) := tX7_empty_0
theorem uX7_empty : ∀ r ∈ tX7_empty, xchk1 cX7_empty r = true := uX7_empty_0
def tX7_entry_0 : List (List (Nat × Instr)) := [[(0, .aload_n 0), (1, .iload_n 1), (2, .iload_n 2), (3, .invokevirtual 111), (6, .ifCond .ne 7), (9, .ldc2_w 133), (12, .lreturn), (13, .iload_n 1), (14, .bipush 24)], [(16, .imul), (17, .iload_n 2), (18, .iadd), (19, .istore 4), (21, .aload_n 0), (22, .getfield 28), (25, .getfield 115), (28, .iload 4), (30, .iaload), (31, .iconst 2)], [(32, .if_icmp .ne 21), (35, .iload_n 3), (36, .ifCond .lt 17), (39, .iload_n 3), (40, .aload_n 0), (41, .getfield 28), (44, .getfield 130), (47, .iload 4)], [(49, .iaload), (50, .if_icmp .lt 7), (53, .ldc2_w 133), (56, .lreturn), (57, .aload_n 0), (58, .getfield 28), (61, .getfield 143)], [(64, .iload 4), (66, .bipush 8), (68, .imul), (69, .iload_n 3), (70, .iadd), (71, .laload), (72, .lreturn)]]
theorem uX7_entry_0 : ∀ r ∈ tX7_entry_0, xchk1 cX7_entry r = true := fun r hr => List.all_eq_true.mp (by decide +kernel : (tX7_entry_0.all (fun r => xchk1 cX7_entry r)) = true) r hr
def tX7_entry : List (List (Nat × Instr)) := tX7_entry_0
theorem uX7_entry : ∀ r ∈ tX7_entry, xchk1 cX7_entry r = true := uX7_entry_0
def tX7_feed_0 : List (List (Nat × Instr)) := [[(0, .iload_n 1), (1, .ifCond .lt 10), (4, .iload_n 1), (5, .sipush 255), (8, .if_icmp .le 6), (11, .bipush (-2)), (13, .ireturn), (14, .aload_n 0), (15, .getfield 10)], [(18, .iload_n 1), (19, .invokevirtual 82), (22, .ireturn)]]
theorem uX7_feed_0 : ∀ r ∈ tX7_feed_0, xchk1 cX7_feed r = true := fun r hr => List.all_eq_true.mp (by decide +kernel : (tX7_feed_0.all (fun r => xchk1 cX7_feed r)) = true) r hr
def tX7_feed : List (List (Nat × Instr)) := tX7_feed_0
theorem uX7_feed : ∀ r ∈ tX7_feed, xchk1 cX7_feed r = true := uX7_feed_0
def tX7_film_0 : List (List (Nat × Instr)) := [[(0, .iload_n 1), (1, .invokestatic 215), (4, .ifCond .ne 6), (7, .bipush (-2)), (9, .ireturn), (10, .aload_n 0), (11, .iload_n 2), (12, .iload_n 3), (13, .bipush 16), (15, .invokevirtual 196)], [(18, .istore 4), (20, .iload 4), (22, .ifCond .eq 6), (25, .iload 4), (27, .ireturn), (28, .aload_n 0), (29, .getfield 47)], [(32, .aload_n 0), (33, .getfield 35), (36, .aload_n 0), (37, .getfield 76), (40, .invokevirtual 166), (43, .aload_n 0), (44, .aload_n 0), (45, .getfield 47)], [(48, .iload_n 2), (49, .iload_n 3), (50, .aload_n 0), (51, .getfield 58), (54, .invokevirtual 218), (57, .invokevirtual 173), (60, .istore 5), (62, .iload 5)], [(64, .bipush (-6)), (66, .if_icmp .ne 6), (69, .bipush (-6)), (71, .ireturn), (72, .aload_n 0), (73, .getfield 54), (76, .iload_n 1), (77, .iconst 0), (78, .iload 5)], [(80, .invokevirtual 222), (83, .iconst 0), (84, .istore 6), (86, .iload 6), (88, .iload 5), (90, .if_icmp .ge 26), (93, .aload_n 0), (94, .getfield 54)], [(97, .iload_n 1), (98, .iload 6), (100, .aload_n 0), (101, .getfield 58), (104, .iload 6), (106, .laload), (107, .invokevirtual 226), (110, .iinc 6 1)], [(113, .goto (-27)), (116, .iload 5), (118, .ireturn)]]
theorem uX7_film_0 : ∀ r ∈ tX7_film_0, xchk1 cX7_film r = true := fun r hr => List.all_eq_true.mp (by decide +kernel : (tX7_film_0.all (fun r => xchk1 cX7_film r)) = true) r hr
def tX7_film : List (List (Nat × Instr)) := tX7_film_0
theorem uX7_film : ∀ r ∈ tX7_film, xchk1 cX7_film r = true := uX7_film_0
def tX7_find_0 : List (List (Nat × Instr)) := [[(0, .aload_n 0), (1, .iload_n 1), (2, .iload 4), (4, .bipush 64), (6, .invokevirtual 196), (9, .istore 5), (11, .iload 5), (13, .ifCond .eq 6)], [(16, .iload 5), (18, .ireturn), (19, .aload_n 0), (20, .getfield 47), (23, .aload_n 0), (24, .getfield 35), (27, .aload_n 0), (28, .getfield 76), (31, .invokevirtual 166)], [(34, .aload_n 0), (35, .aload_n 0), (36, .getfield 47), (39, .iload_n 1), (40, .lload_n 2), (41, .iload 4), (43, .invokevirtual 205), (46, .invokevirtual 173)], [(49, .ireturn)]]
theorem uX7_find_0 : ∀ r ∈ tX7_find_0, xchk1 cX7_find r = true := fun r hr => List.all_eq_true.mp (by decide +kernel : (tX7_find_0.all (fun r => xchk1 cX7_find r)) = true) r hr
def tX7_find : List (List (Nat × Instr)) := tX7_find_0
theorem uX7_find : ∀ r ∈ tX7_find, xchk1 cX7_find r = true := uX7_find_0
def tX7_forget_0 : List (List (Nat × Instr)) := [[(0, .aload_n 0), (1, .getfield 35), (4, .invokevirtual 190), (7, .aload_n 0), (8, .getfield 35), (11, .invokevirtual 193), (14, .iadd), (15, .istore_n 1)], [(16, .aload_n 0), (17, .getfield 35), (20, .invokevirtual 101), (23, .iload_n 1), (24, .ireturn)]]
theorem uX7_forget_0 : ∀ r ∈ tX7_forget_0, xchk1 cX7_forget r = true := fun r hr => List.all_eq_true.mp (by decide +kernel : (tX7_forget_0.all (fun r => xchk1 cX7_forget r)) = true) r hr
def tX7_forget : List (List (Nat × Instr)) := tX7_forget_0
theorem uX7_forget : ∀ r ∈ tX7_forget, xchk1 cX7_forget r = true := uX7_forget_0
def tX7_hasPart_0 : List (List (Nat × Instr)) := [[(0, .iload_n 1), (1, .invokestatic 86), (4, .ifCond .eq 24), (7, .iload_n 2), (8, .ifCond .lt 20), (11, .iload_n 2), (12, .aload_n 0), (13, .getfield 28)], [(16, .getfield 104), (19, .iload_n 1), (20, .iaload), (21, .if_icmp .ge 7), (24, .iconst 1), (25, .goto 4), (28, .iconst 0), (29, .ireturn)]]
theorem uX7_hasPart_0 : ∀ r ∈ tX7_hasPart_0, xchk1 cX7_hasPart r = true := fun r hr => List.all_eq_true.mp (by decide +kernel : (tX7_hasPart_0.all (fun r => xchk1 cX7_hasPart r)) = true) r hr
def tX7_hasPart : List (List (Nat × Instr)) := tX7_hasPart_0
theorem uX7_hasPart : ∀ r ∈ tX7_hasPart, xchk1 cX7_hasPart r = true := uX7_hasPart_0
def tX7_head_0 : List (List (Nat × Instr)) := [[(0, .aload_n 0), (1, .iload_n 1), (2, .iload_n 2), (3, .invokevirtual 162), (6, .ifCond .eq 7), (9, .ldc2_w 133), (12, .lreturn), (13, .aload_n 0), (14, .getfield 47)], [(17, .aload_n 0), (18, .getfield 35), (21, .aload_n 0), (22, .getfield 76), (25, .invokevirtual 166), (28, .aload_n 0), (29, .aload_n 0), (30, .getfield 47)], [(33, .iload_n 1), (34, .iload_n 2), (35, .invokevirtual 176), (38, .invokevirtual 173), (41, .iconst 1), (42, .if_icmp .ne 13), (45, .aload_n 0), (46, .getfield 47)], [(49, .getfield 179), (52, .goto 6), (55, .ldc2_w 133), (58, .lreturn)]]
theorem uX7_head_0 : ∀ r ∈ tX7_head_0, xchk1 cX7_head r = true := fun r hr => List.all_eq_true.mp (by decide +kernel : (tX7_head_0.all (fun r => xchk1 cX7_head r)) = true) r hr
def tX7_head : List (List (Nat × Instr)) := tX7_head_0
theorem uX7_head : ∀ r ∈ tX7_head, xchk1 cX7_head r = true := uX7_head_0
def tX7_image_0 : List (List (Nat × Instr)) := [[(0, .aload_n 0), (1, .getfield 62), (4, .aload_n 0), (5, .getfield 28), (8, .invokevirtual 244), (11, .aload_n 0), (12, .getfield 65), (15, .aload_n 0)], [(16, .getfield 35), (19, .invokevirtual 183), (22, .aload_n 0), (23, .aload_n 0), (24, .getfield 76), (27, .putfield 68), (30, .aload_n 0), (31, .iconst 1)], [(32, .putfield 72), (35, .aload_n 0), (36, .getfield 28), (39, .invokevirtual 247), (42, .ireturn)]]
theorem uX7_image_0 : ∀ r ∈ tX7_image_0, xchk1 cX7_image r = true := fun r hr => List.all_eq_true.mp (by decide +kernel : (tX7_image_0.all (fun r => xchk1 cX7_image r)) = true) r hr
def tX7_image : List (List (Nat × Instr)) := tX7_image_0
theorem uX7_image : ∀ r ∈ tX7_image, xchk1 cX7_image r = true := uX7_image_0
def tX7_init_0 : List (List (Nat × Instr)) := [[(0, .aload_n 0), (1, .invokespecial 1), (4, .aload_n 0), (5, .new 7), (8, .dup), (9, .invokespecial 9), (12, .putfield 10), (15, .aload_n 0)], [(16, .new 16), (19, .dup), (20, .invokespecial 18), (23, .putfield 19), (26, .aload_n 0), (27, .new 23), (30, .dup), (31, .bipush 8)], [(33, .invokespecial 25), (36, .putfield 28), (39, .aload_n 0), (40, .new 32), (43, .dup), (44, .sipush 192), (47, .invokespecial 34)], [(50, .putfield 35), (53, .aload_n 0), (54, .new 32), (57, .dup), (58, .sipush 192), (61, .invokespecial 34)], [(64, .putfield 39), (67, .aload_n 0), (68, .new 42), (71, .dup), (72, .aload_n 0), (73, .getfield 28), (76, .aload_n 0), (77, .getfield 35)], [(80, .invokespecial 44), (83, .putfield 47), (86, .aload_n 0), (87, .new 51), (90, .dup), (91, .invokespecial 53), (94, .putfield 54)], [(97, .aload_n 0), (98, .bipush 16), (100, .newarray .long), (102, .putfield 58), (105, .aload_n 0), (106, .new 23), (109, .dup), (110, .bipush 8)], [(112, .invokespecial 25), (115, .putfield 62), (118, .aload_n 0), (119, .new 32), (122, .dup), (123, .sipush 192), (126, .invokespecial 34)]]
theorem uX7_init_0 : ∀ r ∈ tX7_init_0, xchk1 cX7_init r = true := fun r hr => List.all_eq_true.mp (by decide +kernel : (tX7_init_0.all (fun r => xchk1 cX7_init r)) = true) r hr
def tX7_init_1 : List (List (Nat × Instr)) := [[(129, .putfield 65), (132, .aload_n 0), (133, .bipush 99), (135, .putfield 68), (138, .aload_n 0), (139, .iconst 0), (140, .putfield 72), (143, .aload_n 0)], [(144, .bipush 99), (146, .putfield 76), (149, .aload_n 0), (150, .iconst 0), (151, .putfield 79), (154, .return_)]]
theorem uX7_init_1 : ∀ r ∈ tX7_init_1, xchk1 cX7_init r = true := fun r hr => List.all_eq_true.mp (by decide +kernel : (tX7_init_1.all (fun r => xchk1 cX7_init r)) = true) r hr
def tX7_init : List (List (Nat × Instr)) := tX7_init_0 ++ (tX7_init_1)
theorem uX7_init : ∀ r ∈ tX7_init, xchk1 cX7_init r = true := xap uX7_init_0 (uX7_init_1)
def tX7_is_0 : List (List (Nat × Instr)) := [[(0, .aload_n 0), (1, .iload_n 1), (2, .iload_n 2), (3, .invokevirtual 162), (6, .istore_n 3), (7, .iload_n 3), (8, .ifCond .eq 5), (11, .iload_n 3), (12, .ireturn), (13, .aload_n 0), (14, .getfield 47)], [(17, .aload_n 0), (18, .getfield 35), (21, .aload_n 0), (22, .getfield 76), (25, .invokevirtual 166), (28, .aload_n 0), (29, .aload_n 0), (30, .getfield 47)], [(33, .iload_n 1), (34, .iload_n 2), (35, .invokevirtual 176), (38, .invokevirtual 173), (41, .ireturn)]]
theorem uX7_is_0 : ∀ r ∈ tX7_is_0, xchk1 cX7_is r = true := fun r hr => List.all_eq_true.mp (by decide +kernel : (tX7_is_0.all (fun r => xchk1 cX7_is r)) = true) r hr
def tX7_is : List (List (Nat × Instr)) := tX7_is_0
theorem uX7_is : ∀ r ∈ tX7_is, xchk1 cX7_is r = true := uX7_is_0
def tX7_isEmpty_0 : List (List (Nat × Instr)) := [[(0, .aload_n 0), (1, .getfield 28), (4, .getfield 104), (7, .iload_n 1), (8, .iaload), (9, .ifCond .ne 7), (12, .iconst 1), (13, .goto 4)], [(16, .iconst 0), (17, .ireturn)]]
theorem uX7_isEmpty_0 : ∀ r ∈ tX7_isEmpty_0, xchk1 cX7_isEmpty r = true := fun r hr => List.all_eq_true.mp (by decide +kernel : (tX7_isEmpty_0.all (fun r => xchk1 cX7_isEmpty r)) = true) r hr
def tX7_isEmpty : List (List (Nat × Instr)) := tX7_isEmpty_0
theorem uX7_isEmpty : ∀ r ∈ tX7_isEmpty, xchk1 cX7_isEmpty r = true := uX7_isEmpty_0
def tX7_isQuestion_0 : List (List (Nat × Instr)) := [[(0, .iload_n 0), (1, .ifCond .eq 15), (4, .iload_n 0), (5, .iconst 4), (6, .if_icmp .lt 14), (9, .iload_n 0), (10, .iconst 4), (11, .irem), (12, .iconst 1), (13, .if_icmp .gt 7)], [(16, .iconst 1), (17, .goto 4), (20, .iconst 0), (21, .ireturn)]]
theorem uX7_isQuestion_0 : ∀ r ∈ tX7_isQuestion_0, xchk1 cX7_isQuestion r = true := fun r hr => List.all_eq_true.mp (by decide +kernel : (tX7_isQuestion_0.all (fun r => xchk1 cX7_isQuestion r)) = true) r hr
def tX7_isQuestion : List (List (Nat × Instr)) := tX7_isQuestion_0
theorem uX7_isQuestion : ∀ r ∈ tX7_isQuestion, xchk1 cX7_isQuestion r = true := uX7_isQuestion_0
def tX7_isSheet_0 : List (List (Nat × Instr)) := [[(0, .iload_n 0), (1, .ifCond .lt 12), (4, .iload_n 0), (5, .iconst 4), (6, .if_icmp .ge 7), (9, .iconst 1), (10, .goto 4), (13, .iconst 0), (14, .ireturn)]]
theorem uX7_isSheet_0 : ∀ r ∈ tX7_isSheet_0, xchk1 cX7_isSheet r = true := fun r hr => List.all_eq_true.mp (by decide +kernel : (tX7_isSheet_0.all (fun r => xchk1 cX7_isSheet r)) = true) r hr
def tX7_isSheet : List (List (Nat × Instr)) := tX7_isSheet_0
theorem uX7_isSheet : ∀ r ∈ tX7_isSheet, xchk1 cX7_isSheet r = true := uX7_isSheet_0
def tX7_isStream_0 : List (List (Nat × Instr)) := [[(0, .iload_n 0), (1, .ifCond .lt 13), (4, .iload_n 0), (5, .bipush 8), (7, .if_icmp .ge 7), (10, .iconst 1), (11, .goto 4), (14, .iconst 0), (15, .ireturn)]]
theorem uX7_isStream_0 : ∀ r ∈ tX7_isStream_0, xchk1 cX7_isStream r = true := fun r hr => List.all_eq_true.mp (by decide +kernel : (tX7_isStream_0.all (fun r => xchk1 cX7_isStream r)) = true) r hr
def tX7_isStream : List (List (Nat × Instr)) := tX7_isStream_0
theorem uX7_isStream : ∀ r ∈ tX7_isStream, xchk1 cX7_isStream r = true := uX7_isStream_0
def tX7_isToldBy_0 : List (List (Nat × Instr)) := [[(0, .aload_n 0), (1, .getfield 47), (4, .aload_n 0), (5, .getfield 39), (8, .aload_n 0), (9, .getfield 76), (12, .invokevirtual 166), (15, .iconst 0)], [(16, .istore_n 3), (17, .iload_n 3), (18, .aload_n 0), (19, .getfield 54), (22, .getfield 236), (25, .iload_n 1), (26, .iaload), (27, .if_icmp .ge 46), (30, .aload_n 0), (31, .getfield 47)], [(34, .iload_n 2), (35, .iload_n 3), (36, .invokevirtual 176), (39, .iconst 1), (40, .if_icmp .eq 5), (43, .iconst 0), (44, .ireturn), (45, .aload_n 0), (46, .getfield 47)], [(49, .getfield 179), (52, .aload_n 0), (53, .getfield 54), (56, .iload_n 1), (57, .iload_n 3), (58, .invokevirtual 258), (61, .lcmp), (62, .ifCond .eq 5)], [(65, .iconst 0), (66, .ireturn), (67, .iinc 3 1), (70, .goto (-53)), (73, .iconst 1), (74, .ireturn)]]
theorem uX7_isToldBy_0 : ∀ r ∈ tX7_isToldBy_0, xchk1 cX7_isToldBy r = true := fun r hr => List.all_eq_true.mp (by decide +kernel : (tX7_isToldBy_0.all (fun r => xchk1 cX7_isToldBy r)) = true) r hr
def tX7_isToldBy : List (List (Nat × Instr)) := tX7_isToldBy_0
theorem uX7_isToldBy : ∀ r ∈ tX7_isToldBy, xchk1 cX7_isToldBy r = true := uX7_isToldBy_0
def tX7_item_0 : List (List (Nat × Instr)) := [[(0, .iload_n 1), (1, .invokestatic 215), (4, .ifCond .eq 27), (7, .aload_n 0), (8, .getfield 54), (11, .iload_n 1), (12, .invokevirtual 233), (15, .ifCond .ne 16)], [(18, .aload_n 0), (19, .getfield 54), (22, .iload_n 1), (23, .iload_n 2), (24, .iconst 1), (25, .invokevirtual 254), (28, .ifCond .ne 7), (31, .ldc2_w 133)], [(34, .lreturn), (35, .aload_n 0), (36, .getfield 54), (39, .iload_n 1), (40, .iload_n 2), (41, .invokevirtual 258), (44, .lreturn)]]
theorem uX7_item_0 : ∀ r ∈ tX7_item_0, xchk1 cX7_item r = true := fun r hr => List.all_eq_true.mp (by decide +kernel : (tX7_item_0.all (fun r => xchk1 cX7_item r)) = true) r hr
def tX7_item : List (List (Nat × Instr)) := tX7_item_0
theorem uX7_item : ∀ r ∈ tX7_item, xchk1 cX7_item r = true := uX7_item_0
def tX7_lay_0 : List (List (Nat × Instr)) := [[(0, .iload_n 1), (1, .invokestatic 215), (4, .ifCond .eq 10), (7, .iload_n 2), (8, .invokestatic 86), (11, .ifCond .ne 6), (14, .bipush (-2))], [(16, .ireturn), (17, .iload_n 3), (18, .ifCond .lt 21), (21, .iload_n 3), (22, .iconst 2), (23, .if_icmp .gt 16), (26, .iload 5), (28, .iconst 1), (29, .if_icmp .lt 10)], [(32, .iload 5), (34, .bipush 8), (36, .if_icmp .le 6), (39, .bipush (-2)), (41, .ireturn), (42, .aload_n 0), (43, .getfield 54), (46, .iload_n 1), (47, .invokevirtual 233)], [(50, .ifCond .ne 19), (53, .aload_n 0), (54, .getfield 54), (57, .getfield 261), (60, .iload_n 1), (61, .iaload), (62, .iload_n 3), (63, .if_icmp .eq 6)], [(66, .bipush (-13)), (68, .ireturn), (69, .aload_n 0), (70, .getfield 54), (73, .iload_n 1), (74, .invokevirtual 233), (77, .ifCond .eq 6)], [(80, .bipush (-11)), (82, .ireturn), (83, .aload_n 0), (84, .getfield 54), (87, .iload_n 1), (88, .iload 4), (90, .iload 5), (92, .invokevirtual 254), (95, .ifCond .ne 6)], [(98, .bipush (-12)), (100, .ireturn), (101, .iload_n 2), (102, .bipush 24), (104, .imul), (105, .istore 6), (107, .aload_n 0), (108, .getfield 28), (111, .iload 6)], [(113, .iconst 2), (114, .invokevirtual 268), (117, .aload_n 0), (118, .getfield 28), (121, .getfield 130), (124, .iload 6), (126, .iload 5)]]
theorem uX7_lay_0 : ∀ r ∈ tX7_lay_0, xchk1 cX7_lay r = true := fun r hr => List.all_eq_true.mp (by decide +kernel : (tX7_lay_0.all (fun r => xchk1 cX7_lay r)) = true) r hr
def tX7_lay_1 : List (List (Nat × Instr)) := [[(128, .iastore), (129, .iconst 0), (130, .istore 7), (132, .iload 7), (134, .iload 5), (136, .if_icmp .ge 38), (139, .aload_n 0), (140, .getfield 28), (143, .getfield 143)], [(146, .iload 6), (148, .bipush 8), (150, .imul), (151, .iload 7), (153, .iadd), (154, .aload_n 0), (155, .getfield 54), (158, .iload_n 1), (159, .iload 4)], [(161, .iload 7), (163, .iadd), (164, .invokevirtual 258), (167, .lastore), (168, .iinc 7 1), (171, .goto (-39)), (174, .aload_n 0), (175, .getfield 28)], [(178, .iload_n 2), (179, .iconst 1), (180, .invokevirtual 272), (183, .aload_n 0), (184, .getfield 35), (187, .invokevirtual 101), (190, .iload 5)], [(192, .ireturn)]]
theorem uX7_lay_1 : ∀ r ∈ tX7_lay_1, xchk1 cX7_lay r = true := fun r hr => List.all_eq_true.mp (by decide +kernel : (tX7_lay_1.all (fun r => xchk1 cX7_lay r)) = true) r hr
def tX7_lay : List (List (Nat × Instr)) := tX7_lay_0 ++ (tX7_lay_1)
theorem uX7_lay : ∀ r ∈ tX7_lay, xchk1 cX7_lay r = true := xap uX7_lay_0 (uX7_lay_1)
def tX7_limit_0 : List (List (Nat × Instr)) := [[(0, .iload_n 1), (1, .ifCond .lt 9), (4, .iload_n 1), (5, .bipush 99), (7, .if_icmp .le 6), (10, .bipush (-2)), (12, .ireturn), (13, .aload_n 0), (14, .getfield 76)], [(17, .istore_n 2), (18, .aload_n 0), (19, .iload_n 1), (20, .putfield 76), (23, .iload_n 2), (24, .ireturn)]]
theorem uX7_limit_0 : ∀ r ∈ tX7_limit_0, xchk1 cX7_limit r = true := fun r hr => List.all_eq_true.mp (by decide +kernel : (tX7_limit_0.all (fun r => xchk1 cX7_limit r)) = true) r hr
def tX7_limit : List (List (Nat × Instr)) := tX7_limit_0
theorem uX7_limit : ∀ r ∈ tX7_limit, xchk1 cX7_limit r = true := uX7_limit_0
def tX7_need_0 : List (List (Nat × Instr)) := [[(0, .aload_n 0), (1, .iload_n 1), (2, .iload_n 2), (3, .invokevirtual 162), (6, .istore_n 3), (7, .iload_n 3), (8, .ifCond .eq 5), (11, .iload_n 3), (12, .ireturn), (13, .aload_n 0), (14, .getfield 39)], [(17, .aload_n 0), (18, .getfield 35), (21, .invokevirtual 183), (24, .aload_n 0), (25, .getfield 47), (28, .aload_n 0), (29, .getfield 39)], [(32, .bipush 99), (34, .invokevirtual 166), (37, .aload_n 0), (38, .getfield 47), (41, .iload_n 1), (42, .iload_n 2), (43, .invokevirtual 176), (46, .bipush (-6))], [(48, .if_icmp .ne 8), (51, .bipush (-6)), (53, .goto 10), (56, .aload_n 0), (57, .getfield 47), (60, .getfield 187), (63, .ireturn)]]
theorem uX7_need_0 : ∀ r ∈ tX7_need_0, xchk1 cX7_need r = true := fun r hr => List.all_eq_true.mp (by decide +kernel : (tX7_need_0.all (fun r => xchk1 cX7_need r)) = true) r hr
def tX7_need : List (List (Nat × Instr)) := tX7_need_0
theorem uX7_need : ∀ r ∈ tX7_need, xchk1 cX7_need r = true := uX7_need_0
def tX7_number_0 : List (List (Nat × Instr)) := [[(0, .aload_n 0), (1, .iload_n 1), (2, .iload_n 2), (3, .invokevirtual 111), (6, .ifCond .ne 7), (9, .ldc2_w 133), (12, .lreturn), (13, .iload_n 1), (14, .bipush 24)], [(16, .imul), (17, .iload_n 2), (18, .iadd), (19, .istore_n 3), (20, .aload_n 0), (21, .getfield 28), (24, .getfield 115), (27, .iload_n 3), (28, .iaload), (29, .invokestatic 135)], [(32, .ifCond .eq 16), (35, .aload_n 0), (36, .getfield 28), (39, .getfield 140), (42, .iload_n 3), (43, .iaload), (44, .i2l), (45, .goto 6)], [(48, .ldc2_w 133), (51, .lreturn)]]
theorem uX7_number_0 : ∀ r ∈ tX7_number_0, xchk1 cX7_number r = true := fun r hr => List.all_eq_true.mp (by decide +kernel : (tX7_number_0.all (fun r => xchk1 cX7_number r)) = true) r hr
def tX7_number : List (List (Nat × Instr)) := tX7_number_0
theorem uX7_number : ∀ r ∈ tX7_number, xchk1 cX7_number r = true := uX7_number_0
def tX7_part_0 : List (List (Nat × Instr)) := [[(0, .iload_n 1), (1, .invokestatic 86), (4, .ifCond .eq 12), (7, .iload_n 3), (8, .ifCond .lt 8), (11, .iload_n 3), (12, .iconst 5), (13, .if_icmp .le 6)], [(16, .bipush (-2)), (18, .ireturn), (19, .aload_n 0), (20, .iload_n 1), (21, .invokevirtual 108), (24, .ifCond .eq 6), (27, .bipush (-3)), (29, .ireturn), (30, .aload_n 0), (31, .iload_n 1)], [(32, .iload_n 2), (33, .invokevirtual 111), (36, .ifCond .ne 6), (39, .bipush (-12)), (41, .ireturn), (42, .iload_n 1), (43, .bipush 24), (45, .imul), (46, .iload_n 2), (47, .iadd)], [(48, .istore 4), (50, .iload_n 3), (51, .tableswitch 88 0 4 #[33, 44, 55, 66, 77])], [], [(84, .aload_n 0), (85, .getfield 28), (88, .getfield 115), (91, .iload 4), (93, .iaload), (94, .ireturn), (95, .aload_n 0)], [(96, .getfield 28), (99, .getfield 118), (102, .iload 4), (104, .iaload), (105, .ireturn), (106, .aload_n 0), (107, .getfield 35), (110, .getfield 121)], [(113, .iload 4), (115, .iaload), (116, .ireturn), (117, .aload_n 0), (118, .getfield 35), (121, .getfield 124), (124, .iload 4), (126, .iaload), (127, .ireturn)]]
theorem uX7_part_0 : ∀ r ∈ tX7_part_0, xchk1 cX7_part r = true := fun r hr => List.all_eq_true.mp (by decide +kernel : (tX7_part_0.all (fun r => xchk1 cX7_part r)) = true) r hr
def tX7_part_1 : List (List (Nat × Instr)) := [[(128, .aload_n 0), (129, .getfield 35), (132, .getfield 127), (135, .iload 4), (137, .iaload), (138, .ireturn), (139, .aload_n 0), (140, .getfield 28), (143, .getfield 115)], [(146, .iload 4), (148, .iaload), (149, .iconst 2), (150, .if_icmp .ne 16), (153, .aload_n 0), (154, .getfield 28), (157, .getfield 130)], [(160, .iload 4), (162, .iaload), (163, .goto 4), (166, .iconst (-1)), (167, .ireturn)]]
theorem uX7_part_1 : ∀ r ∈ tX7_part_1, xchk1 cX7_part r = true := fun r hr => List.all_eq_true.mp (by decide +kernel : (tX7_part_1.all (fun r => xchk1 cX7_part r)) = true) r hr
def tX7_part : List (List (Nat × Instr)) := tX7_part_0 ++ (tX7_part_1)
theorem uX7_part : ∀ r ∈ tX7_part, xchk1 cX7_part r = true := xap uX7_part_0 (uX7_part_1)
def tX7_print_0 : List (List (Nat × Instr)) := [[(0, .iload_n 1), (1, .invokestatic 86), (4, .ifCond .ne 6), (7, .bipush (-2)), (9, .ireturn), (10, .aload_n 0), (11, .iload_n 1), (12, .invokevirtual 108), (15, .ifCond .eq 6)], [(18, .bipush (-3)), (20, .ireturn), (21, .aload_n 0), (22, .getfield 19), (25, .aload_n 0), (26, .getfield 28), (29, .iload_n 1), (30, .invokevirtual 152)], [(33, .iload_n 2), (34, .iconst (-1)), (35, .if_icmp .ne 11), (38, .aload_n 0), (39, .getfield 19), (42, .getfield 156), (45, .ireturn), (46, .iload_n 2), (47, .ifCond .lt 14)], [(50, .iload_n 2), (51, .aload_n 0), (52, .getfield 19), (55, .getfield 156), (58, .if_icmp .lt 6), (61, .bipush (-12)), (63, .ireturn)], [(64, .aload_n 0), (65, .getfield 19), (68, .getfield 159), (71, .iload_n 2), (72, .iaload), (73, .ireturn)]]
theorem uX7_print_0 : ∀ r ∈ tX7_print_0, xchk1 cX7_print r = true := fun r hr => List.all_eq_true.mp (by decide +kernel : (tX7_print_0.all (fun r => xchk1 cX7_print r)) = true) r hr
def tX7_print : List (List (Nat × Instr)) := tX7_print_0
theorem uX7_print : ∀ r ∈ tX7_print, xchk1 cX7_print r = true := uX7_print_0
def tX7_put_0 : List (List (Nat × Instr)) := [[(0, .iload_n 1), (1, .invokestatic 215), (4, .ifCond .ne 6), (7, .bipush (-2)), (9, .ireturn), (10, .aload_n 0), (11, .getfield 54), (14, .iload_n 1), (15, .invokevirtual 233)], [(18, .ifCond .eq 6), (21, .bipush (-11)), (23, .ireturn), (24, .aload_n 0), (25, .getfield 54), (28, .iload_n 1), (29, .iload_n 2), (30, .iconst 1), (31, .invokevirtual 254)], [(34, .ifCond .ne 6), (37, .bipush (-12)), (39, .ireturn), (40, .aload_n 0), (41, .getfield 54), (44, .iload_n 1), (45, .iload_n 2), (46, .lload_n 3), (47, .invokevirtual 226)], [(50, .iconst 1), (51, .ireturn)]]
theorem uX7_put_0 : ∀ r ∈ tX7_put_0, xchk1 cX7_put r = true := fun r hr => List.all_eq_true.mp (by decide +kernel : (tX7_put_0.all (fun r => xchk1 cX7_put r)) = true) r hr
def tX7_put : List (List (Nat × Instr)) := tX7_put_0
theorem uX7_put : ∀ r ∈ tX7_put, xchk1 cX7_put r = true := uX7_put_0
def tX7_refusedPlace_0 : List (List (Nat × Instr)) := [[(0, .aload_n 0), (1, .iload_n 1), (2, .iload_n 2), (3, .bipush 63), (5, .invokevirtual 196), (8, .ireturn)]]
theorem uX7_refusedPlace_0 : ∀ r ∈ tX7_refusedPlace_0, xchk1 cX7_refusedPlace r = true := fun r hr => List.all_eq_true.mp (by decide +kernel : (tX7_refusedPlace_0.all (fun r => xchk1 cX7_refusedPlace r)) = true) r hr
def tX7_refusedPlace : List (List (Nat × Instr)) := tX7_refusedPlace_0
theorem uX7_refusedPlace : ∀ r ∈ tX7_refusedPlace, xchk1 cX7_refusedPlace r = true := uX7_refusedPlace_0
def tX7_refusedRow_0 : List (List (Nat × Instr)) := [[(0, .iload_n 1), (1, .invokestatic 86), (4, .ifCond .eq 12), (7, .iload_n 2), (8, .ifCond .lt 8), (11, .iload_n 2), (12, .iload_n 3), (13, .if_icmp .le 6)], [(16, .bipush (-2)), (18, .ireturn), (19, .aload_n 0), (20, .iload_n 1), (21, .invokevirtual 108), (24, .ifCond .eq 8), (27, .bipush (-3)), (29, .goto 4)], [(32, .iconst 0), (33, .ireturn)]]
theorem uX7_refusedRow_0 : ∀ r ∈ tX7_refusedRow_0, xchk1 cX7_refusedRow r = true := fun r hr => List.all_eq_true.mp (by decide +kernel : (tX7_refusedRow_0.all (fun r => xchk1 cX7_refusedRow r)) = true) r hr
def tX7_refusedRow : List (List (Nat × Instr)) := tX7_refusedRow_0
theorem uX7_refusedRow : ∀ r ∈ tX7_refusedRow, xchk1 cX7_refusedRow r = true := uX7_refusedRow_0
def tX7_rises_0 : List (List (Nat × Instr)) := [[(0, .aload_n 0), (1, .iload_n 1), (2, .iconst 0), (3, .bipush 64), (5, .invokevirtual 196), (8, .istore_n 2), (9, .iload_n 2), (10, .ifCond .eq 5), (13, .iload_n 2), (14, .ireturn), (15, .aload_n 0)], [(16, .getfield 47), (19, .aload_n 0), (20, .getfield 35), (23, .aload_n 0), (24, .getfield 76), (27, .invokevirtual 166), (30, .aload_n 0), (31, .aload_n 0)], [(32, .getfield 47), (35, .iload_n 1), (36, .invokevirtual 212), (39, .invokevirtual 173), (42, .ireturn)]]
theorem uX7_rises_0 : ∀ r ∈ tX7_rises_0, xchk1 cX7_rises r = true := fun r hr => List.all_eq_true.mp (by decide +kernel : (tX7_rises_0.all (fun r => xchk1 cX7_rises r)) = true) r hr
def tX7_rises : List (List (Nat × Instr)) := tX7_rises_0
theorem uX7_rises : ∀ r ∈ tX7_rises, xchk1 cX7_rises r = true := uX7_rises_0
def tX7_sheet_0 : List (List (Nat × Instr)) := [[(0, .iload_n 1), (1, .invokestatic 215), (4, .ifCond .eq 13), (7, .iload_n 2), (8, .iconst (-1)), (9, .if_icmp .lt 8), (12, .iload_n 2), (13, .iconst 2), (14, .if_icmp .le 6)], [(17, .bipush (-2)), (19, .ireturn), (20, .iload_n 2), (21, .iconst (-1)), (22, .if_icmp .ne 15), (25, .aload_n 0), (26, .getfield 54), (29, .iload_n 1), (30, .iconst (-1)), (31, .iconst 0)], [(32, .invokevirtual 222), (35, .iconst 1), (36, .ireturn), (37, .iload_n 3), (38, .bipush 40), (40, .if_icmp .le 6), (43, .bipush (-2)), (45, .ireturn), (46, .iload_n 3), (47, .ifCond .ge 6)], [(50, .bipush (-14)), (52, .ireturn), (53, .aload_n 0), (54, .getfield 54), (57, .iload_n 1), (58, .iload_n 2), (59, .iload_n 3), (60, .invokevirtual 222), (63, .iconst 1)], [(64, .ireturn)]]
theorem uX7_sheet_0 : ∀ r ∈ tX7_sheet_0, xchk1 cX7_sheet r = true := fun r hr => List.all_eq_true.mp (by decide +kernel : (tX7_sheet_0.all (fun r => xchk1 cX7_sheet r)) = true) r hr
def tX7_sheet : List (List (Nat × Instr)) := tX7_sheet_0
theorem uX7_sheet : ∀ r ∈ tX7_sheet, xchk1 cX7_sheet r = true := uX7_sheet_0
def tX7_sum_0 : List (List (Nat × Instr)) := [[(0, .aload_n 0), (1, .iload_n 1), (2, .iload_n 2), (3, .bipush 64), (5, .invokevirtual 196), (8, .ifCond .eq 7), (11, .ldc2_w 133), (14, .lreturn), (15, .aload_n 0)], [(16, .getfield 47), (19, .aload_n 0), (20, .getfield 35), (23, .aload_n 0), (24, .getfield 76), (27, .invokevirtual 166), (30, .aload_n 0), (31, .aload_n 0)], [(32, .getfield 47), (35, .iload_n 1), (36, .iload_n 2), (37, .invokevirtual 200), (40, .invokevirtual 173), (43, .istore_n 3), (44, .iload_n 3), (45, .bipush (-6)), (47, .if_icmp .ne 7)], [(50, .ldc2_w 203), (53, .lreturn), (54, .iload_n 3), (55, .iconst 1), (56, .if_icmp .ne 13), (59, .aload_n 0), (60, .getfield 47), (63, .getfield 179)], [(66, .goto 6), (69, .ldc2_w 133), (72, .lreturn)]]
theorem uX7_sum_0 : ∀ r ∈ tX7_sum_0, xchk1 cX7_sum r = true := fun r hr => List.all_eq_true.mp (by decide +kernel : (tX7_sum_0.all (fun r => xchk1 cX7_sum r)) = true) r hr
def tX7_sum : List (List (Nat × Instr)) := tX7_sum_0
theorem uX7_sum : ∀ r ∈ tX7_sum, xchk1 cX7_sum r = true := uX7_sum_0
def tX7_taken_0 : List (List (Nat × Instr)) := [[(0, .iload_n 1), (1, .invokestatic 86), (4, .ifCond .eq 12), (7, .iload_n 3), (8, .ifCond .lt 8), (11, .iload_n 3), (12, .iconst 2), (13, .if_icmp .le 6)], [(16, .bipush (-2)), (18, .ireturn), (19, .aload_n 0), (20, .iload_n 1), (21, .invokevirtual 108), (24, .ifCond .eq 6), (27, .bipush (-3)), (29, .ireturn), (30, .aload_n 0), (31, .iload_n 1)], [(32, .iload_n 2), (33, .invokevirtual 111), (36, .ifCond .ne 6), (39, .bipush (-12)), (41, .ireturn), (42, .iload_n 1), (43, .bipush 24), (45, .imul), (46, .iload_n 2), (47, .iadd)], [(48, .istore 4), (50, .aload_n 0), (51, .getfield 28), (54, .getfield 115), (57, .iload 4), (59, .iaload), (60, .invokestatic 149), (63, .iload_n 3)], [(64, .if_icmp .eq 6), (67, .bipush (-13)), (69, .ireturn), (70, .aload_n 0), (71, .getfield 28), (74, .getfield 118), (77, .iload 4), (79, .iaload)], [(80, .iconst 1), (81, .isub), (82, .ireturn)]]
theorem uX7_taken_0 : ∀ r ∈ tX7_taken_0, xchk1 cX7_taken r = true := fun r hr => List.all_eq_true.mp (by decide +kernel : (tX7_taken_0.all (fun r => xchk1 cX7_taken r)) = true) r hr
def tX7_taken : List (List (Nat × Instr)) := tX7_taken_0
theorem uX7_taken : ∀ r ∈ tX7_taken, xchk1 cX7_taken r = true := uX7_taken_0
def tX7_tellingNumbers_0 : List (List (Nat × Instr)) := [[(0, .iload_n 2), (1, .bipush 24), (3, .imul), (4, .iload_n 3), (5, .iadd), (6, .istore 5), (8, .aload_n 0), (9, .getfield 28), (12, .getfield 140), (15, .iload 5)], [(17, .iaload), (18, .istore 6), (20, .iconst 0), (21, .istore 7), (23, .iconst (-1)), (24, .istore 8), (26, .iconst 0), (27, .istore 9), (29, .iload 9), (31, .bipush 20)], [(33, .if_icmp .gt 74), (36, .aload_n 0), (37, .getfield 28), (40, .getfield 115), (43, .iload 5), (45, .iaload), (46, .iload 9)], [(48, .invokestatic 146), (51, .ifCond .ne 6), (54, .goto 47), (57, .aload_n 0), (58, .getfield 28), (61, .getfield 140)], [(64, .iload 5), (66, .iload 9), (68, .iastore), (69, .aload_n 0), (70, .getfield 39), (73, .invokevirtual 101), (76, .aload_n 0), (77, .iload_n 1), (78, .iload_n 2), (79, .invokevirtual 275)], [(82, .ifCond .ne 6), (85, .goto 16), (88, .iinc 7 1), (91, .iload 8), (93, .iconst (-1)), (94, .if_icmp .ne 7)], [(97, .iload 9), (99, .istore 8), (101, .iinc 9 1), (104, .goto (-75)), (107, .aload_n 0), (108, .getfield 28), (111, .getfield 140)], [(114, .iload 5), (116, .iload 6), (118, .iastore), (119, .iload 4), (121, .ifCond .eq 8), (124, .iload 8), (126, .goto 5)]]
theorem uX7_tellingNumbers_0 : ∀ r ∈ tX7_tellingNumbers_0, xchk1 cX7_tellingNumbers r = true := fun r hr => List.all_eq_true.mp (by decide +kernel : (tX7_tellingNumbers_0.all (fun r => xchk1 cX7_tellingNumbers r)) = true) r hr
def tX7_tellingNumbers_1 : List (List (Nat × Instr)) := [[(129, .iload 7), (131, .ireturn)]]
theorem uX7_tellingNumbers_1 : ∀ r ∈ tX7_tellingNumbers_1, xchk1 cX7_tellingNumbers r = true := fun r hr => List.all_eq_true.mp (by decide +kernel : (tX7_tellingNumbers_1.all (fun r => xchk1 cX7_tellingNumbers r)) = true) r hr
def tX7_tellingNumbers : List (List (Nat × Instr)) := tX7_tellingNumbers_0 ++ (tX7_tellingNumbers_1)
theorem uX7_tellingNumbers : ∀ r ∈ tX7_tellingNumbers, xchk1 cX7_tellingNumbers r = true := xap uX7_tellingNumbers_0 (uX7_tellingNumbers_1)
def tX7_tellingStreams_0 : List (List (Nat × Instr)) := [[(0, .iconst 0), (1, .istore_n 2), (2, .iconst 0), (3, .istore_n 3), (4, .iload_n 3), (5, .bipush 8), (7, .if_icmp .ge 46), (10, .aload_n 0), (11, .iload_n 3), (12, .invokevirtual 108), (15, .ifCond .eq 6)], [(18, .goto 29), (21, .aload_n 0), (22, .getfield 39), (25, .aload_n 0), (26, .getfield 35), (29, .invokevirtual 183)], [(32, .aload_n 0), (33, .iload_n 1), (34, .iload_n 3), (35, .invokevirtual 275), (38, .ifCond .eq 9), (41, .iload_n 2), (42, .iconst 1), (43, .iload_n 3), (44, .ishl), (45, .ior), (46, .istore_n 2), (47, .iinc 3 1)], [(50, .goto (-46)), (53, .iload_n 2), (54, .ireturn)]]
theorem uX7_tellingStreams_0 : ∀ r ∈ tX7_tellingStreams_0, xchk1 cX7_tellingStreams r = true := fun r hr => List.all_eq_true.mp (by decide +kernel : (tX7_tellingStreams_0.all (fun r => xchk1 cX7_tellingStreams r)) = true) r hr
def tX7_tellingStreams : List (List (Nat × Instr)) := tX7_tellingStreams_0
theorem uX7_tellingStreams : ∀ r ∈ tX7_tellingStreams, xchk1 cX7_tellingStreams r = true := uX7_tellingStreams_0
def tX7_tells_0 : List (List (Nat × Instr)) := [[(0, .iload_n 1), (1, .invokestatic 215), (4, .ifCond .eq 17), (7, .iload_n 2), (8, .invokestatic 86), (11, .ifCond .eq 10), (14, .iload_n 3), (15, .invokestatic 230)], [(18, .ifCond .ne 6), (21, .bipush (-2)), (23, .ireturn), (24, .aload_n 0), (25, .iload_n 2), (26, .invokevirtual 108), (29, .ifCond .eq 6)], [(32, .bipush (-3)), (34, .ireturn), (35, .iload_n 3), (36, .iconst 4), (37, .idiv), (38, .iconst 1), (39, .isub), (40, .istore 4), (42, .iload_n 3), (43, .ifCond .eq 40), (46, .aload_n 0), (47, .iload_n 2)], [(48, .iload 4), (50, .invokevirtual 111), (53, .ifCond .ne 6), (56, .bipush (-12)), (58, .ireturn), (59, .aload_n 0), (60, .getfield 28), (63, .getfield 115)], [(66, .iload_n 2), (67, .bipush 24), (69, .imul), (70, .iload 4), (72, .iadd), (73, .iaload), (74, .invokestatic 135), (77, .ifCond .ne 6)], [(80, .bipush (-13)), (82, .ireturn), (83, .aload_n 0), (84, .getfield 54), (87, .iload_n 1), (88, .invokevirtual 233), (91, .ifCond .eq 6), (94, .bipush (-11))], [(96, .ireturn), (97, .aload_n 0), (98, .getfield 54), (101, .getfield 236), (104, .iload_n 1), (105, .iaload), (106, .bipush 16), (108, .if_icmp .le 6), (111, .bipush (-2))], [(113, .ireturn), (114, .iload_n 3), (115, .ifCond .ne 11), (118, .aload_n 0), (119, .iload_n 1), (120, .invokevirtual 237), (123, .goto 23), (126, .aload_n 0), (127, .iload_n 1)]]
theorem uX7_tells_0 : ∀ r ∈ tX7_tells_0, xchk1 cX7_tells r = true := fun r hr => List.all_eq_true.mp (by decide +kernel : (tX7_tells_0.all (fun r => xchk1 cX7_tells r)) = true) r hr
def tX7_tells_1 : List (List (Nat × Instr)) := [[(128, .iload_n 2), (129, .iload 4), (131, .iload_n 3), (132, .iconst 4), (133, .irem), (134, .iconst 1), (135, .if_icmp .ne 7), (138, .iconst 1), (139, .goto 4), (142, .iconst 0), (143, .invokevirtual 240)], [(146, .ireturn)]]
theorem uX7_tells_1 : ∀ r ∈ tX7_tells_1, xchk1 cX7_tells r = true := fun r hr => List.all_eq_true.mp (by decide +kernel : (tX7_tells_1.all (fun r => xchk1 cX7_tells r)) = true) r hr
def tX7_tells : List (List (Nat × Instr)) := tX7_tells_0 ++ (tX7_tells_1)
theorem uX7_tells : ∀ r ∈ tX7_tells, xchk1 cX7_tells r = true := xap uX7_tells_0 (uX7_tells_1)
def tX7_text_0 : List (List (Nat × Instr)) := [[(0, .iload_n 1), (1, .invokestatic 86), (4, .ifCond .ne 6), (7, .bipush (-2)), (9, .ireturn), (10, .aload_n 0), (11, .getfield 10), (14, .invokevirtual 90)], [(17, .istore_n 2), (18, .iload_n 2), (19, .ifCond .le 26), (22, .aload_n 0), (23, .getfield 28), (26, .aload_n 0), (27, .getfield 10), (30, .getfield 94)], [(33, .iconst 0), (34, .iload_n 1), (35, .invokevirtual 97), (38, .aload_n 0), (39, .getfield 35), (42, .invokevirtual 101), (45, .iload_n 2), (46, .ireturn)]]
theorem uX7_text_0 : ∀ r ∈ tX7_text_0, xchk1 cX7_text r = true := fun r hr => List.all_eq_true.mp (by decide +kernel : (tX7_text_0.all (fun r => xchk1 cX7_text r)) = true) r hr
def tX7_text : List (List (Nat × Instr)) := tX7_text_0
theorem uX7_text : ∀ r ∈ tX7_text, xchk1 cX7_text r = true := uX7_text_0
def tX7_there_0 : List (List (Nat × Instr)) := [[(0, .aload_n 0), (1, .iload_n 1), (2, .iload_n 2), (3, .invokevirtual 162), (6, .istore_n 3), (7, .iload_n 3), (8, .ifCond .eq 5), (11, .iload_n 3), (12, .ireturn), (13, .aload_n 0), (14, .getfield 47)], [(17, .aload_n 0), (18, .getfield 35), (21, .aload_n 0), (22, .getfield 76), (25, .invokevirtual 166), (28, .aload_n 0), (29, .aload_n 0), (30, .getfield 47)], [(33, .iload_n 1), (34, .iload_n 2), (35, .invokevirtual 170), (38, .invokevirtual 173), (41, .ireturn)]]
theorem uX7_there_0 : ∀ r ∈ tX7_there_0, xchk1 cX7_there r = true := fun r hr => List.all_eq_true.mp (by decide +kernel : (tX7_there_0.all (fun r => xchk1 cX7_there r)) = true) r hr
def tX7_there : List (List (Nat × Instr)) := tX7_there_0
theorem uX7_there : ∀ r ∈ tX7_there, xchk1 cX7_there r = true := uX7_there_0
def tX7_twist_0 : List (List (Nat × Instr)) := [[(0, .iload_n 1), (1, .invokestatic 86), (4, .ifCond .eq 17), (7, .iload_n 3), (8, .sipush (-9999)), (11, .if_icmp .lt 10), (14, .iload_n 3), (15, .sipush 9999)], [(18, .if_icmp .le 6), (21, .bipush (-2)), (23, .ireturn), (24, .aload_n 0), (25, .iload_n 1), (26, .invokevirtual 108), (29, .ifCond .eq 6)], [(32, .bipush (-3)), (34, .ireturn), (35, .aload_n 0), (36, .iload_n 1), (37, .iload_n 2), (38, .invokevirtual 111), (41, .ifCond .ne 6), (44, .bipush (-12)), (46, .ireturn), (47, .iload_n 1)], [(48, .bipush 24), (50, .imul), (51, .iload_n 2), (52, .iadd), (53, .istore 4), (55, .aload_n 0), (56, .getfield 28), (59, .getfield 115), (62, .iload 4)], [(64, .iaload), (65, .istore 5), (67, .iload 5), (69, .invokestatic 135), (72, .ifCond .ne 6), (75, .bipush (-13)), (77, .ireturn), (78, .iload 5)], [(80, .iload_n 3), (81, .invokestatic 146), (84, .ifCond .ne 6), (87, .bipush (-2)), (89, .ireturn), (90, .aload_n 0), (91, .getfield 28), (94, .getfield 140)], [(97, .iload 4), (99, .iload_n 3), (100, .iastore), (101, .aload_n 0), (102, .getfield 35), (105, .invokevirtual 101), (108, .iconst 1), (109, .ireturn)]]
theorem uX7_twist_0 : ∀ r ∈ tX7_twist_0, xchk1 cX7_twist r = true := fun r hr => List.all_eq_true.mp (by decide +kernel : (tX7_twist_0.all (fun r => xchk1 cX7_twist r)) = true) r hr
def tX7_twist : List (List (Nat × Instr)) := tX7_twist_0
theorem uX7_twist : ∀ r ∈ tX7_twist, xchk1 cX7_twist r = true := uX7_twist_0
end
section
def tX8_back_0 : List (List (Nat × Instr)) := [[(0, .aload_n 0), (1, .getfield 419), (4, .ifCond .ne 6), (7, .bipush (-3)), (9, .ireturn), (10, .iconst 0), (11, .istore_n 1), (12, .iload_n 1), (13, .bipush 8), (15, .if_icmp .ge 21)], [(18, .aload_n 0), (19, .getfield 13), (22, .iload_n 1), (23, .aload_n 0), (24, .getfield 118), (27, .iload_n 1), (28, .iaload), (29, .iastore), (30, .iinc 1 1)], [(33, .goto (-21)), (36, .iconst 0), (37, .istore_n 1), (38, .iload_n 1), (39, .sipush 192), (42, .if_icmp .ge 129), (45, .aload_n 0), (46, .getfield 17)], [(49, .iload_n 1), (50, .aload_n 0), (51, .getfield 121), (54, .iload_n 1), (55, .iaload), (56, .iastore), (57, .aload_n 0), (58, .getfield 20), (61, .iload_n 1), (62, .aload_n 0), (63, .getfield 124)], [(66, .iload_n 1), (67, .iaload), (68, .iastore), (69, .aload_n 0), (70, .getfield 23), (73, .iload_n 1), (74, .aload_n 0), (75, .getfield 127), (78, .iload_n 1), (79, .iaload)], [(80, .iastore), (81, .aload_n 0), (82, .getfield 26), (85, .iload_n 1), (86, .aload_n 0), (87, .getfield 130), (90, .iload_n 1), (91, .laload), (92, .lastore), (93, .aload_n 0), (94, .getfield 30)], [(97, .iload_n 1), (98, .aload_n 0), (99, .getfield 133), (102, .iload_n 1), (103, .laload), (104, .lastore), (105, .aload_n 0), (106, .getfield 33), (109, .iload_n 1), (110, .aload_n 0), (111, .getfield 136)], [(114, .iload_n 1), (115, .iaload), (116, .iastore), (117, .aload_n 0), (118, .getfield 42), (121, .iload_n 1), (122, .aload_n 0), (123, .getfield 142), (126, .iload_n 1), (127, .iaload)]]
theorem uX8_back_0 : ∀ r ∈ tX8_back_0, xchk1 cX8_back r = true := fun r hr => List.all_eq_true.mp (by decide +kernel : (tX8_back_0.all (fun r => xchk1 cX8_back r)) = true) r hr
def tX8_back_1 : List (List (Nat × Instr)) := [[(128, .iastore), (129, .aload_n 0), (130, .getfield 45), (133, .iload_n 1), (134, .aload_n 0), (135, .getfield 145), (138, .iload_n 1), (139, .iaload), (140, .iastore), (141, .aload_n 0), (142, .getfield 52)], [(145, .iload_n 1), (146, .aload_n 0), (147, .getfield 148), (150, .iload_n 1), (151, .iaload), (152, .iastore), (153, .aload_n 0), (154, .getfield 55), (157, .iload_n 1), (158, .aload_n 0), (159, .getfield 151)], [(162, .iload_n 1), (163, .iaload), (164, .iastore), (165, .iinc 1 1), (168, .goto (-130)), (171, .iconst 0), (172, .istore_n 1), (173, .iload_n 1), (174, .sipush 1536)], [(177, .if_icmp .ge 21), (180, .aload_n 0), (181, .getfield 36), (184, .iload_n 1), (185, .aload_n 0), (186, .getfield 139), (189, .iload_n 1), (190, .laload), (191, .lastore)], [(192, .iinc 1 1), (195, .goto (-22)), (198, .iconst 0), (199, .istore_n 1), (200, .iload_n 1), (201, .sipush 12288), (204, .if_icmp .ge 45), (207, .aload_n 0)], [(208, .getfield 58), (211, .iload_n 1), (212, .aload_n 0), (213, .getfield 154), (216, .iload_n 1), (217, .iaload), (218, .iastore), (219, .aload_n 0), (220, .getfield 61), (223, .iload_n 1)], [(224, .aload_n 0), (225, .getfield 157), (228, .iload_n 1), (229, .laload), (230, .lastore), (231, .aload_n 0), (232, .getfield 64), (235, .iload_n 1), (236, .aload_n 0), (237, .getfield 160)], [(240, .iload_n 1), (241, .iaload), (242, .iastore), (243, .iinc 1 1), (246, .goto (-46)), (249, .aload_n 0), (250, .aload_n 0), (251, .getfield 416), (254, .putfield 39)]]
theorem uX8_back_1 : ∀ r ∈ tX8_back_1, xchk1 cX8_back r = true := fun r hr => List.all_eq_true.mp (by decide +kernel : (tX8_back_1.all (fun r => xchk1 cX8_back r)) = true) r hr
def tX8_back_2 : List (List (Nat × Instr)) := [[(257, .aload_n 0), (258, .invokevirtual 422), (261, .ireturn)]]
theorem uX8_back_2 : ∀ r ∈ tX8_back_2, xchk1 cX8_back r = true := fun r hr => List.all_eq_true.mp (by decide +kernel : (tX8_back_2.all (fun r => xchk1 cX8_back r)) = true) r hr
def tX8_back : List (List (Nat × Instr)) := tX8_back_0 ++ (tX8_back_1 ++ (tX8_back_2))
theorem uX8_back : ∀ r ∈ tX8_back, xchk1 cX8_back r = true := xap uX8_back_0 (xap uX8_back_1 (uX8_back_2))
def tX8_begins_0 : List (List (Nat × Instr)) := [[(0, .aload_n 0), (1, .iconst 0), (2, .putfield 326), (5, .aload_n 0), (6, .iload_n 1), (7, .putfield 329), (10, .return_)]]
theorem uX8_begins_0 : ∀ r ∈ tX8_begins_0, xchk1 cX8_begins r = true := fun r hr => List.all_eq_true.mp (by decide +kernel : (tX8_begins_0.all (fun r => xchk1 cX8_begins r)) = true) r hr
def tX8_begins : List (List (Nat × Instr)) := tX8_begins_0
theorem uX8_begins : ∀ r ∈ tX8_begins, xchk1 cX8_begins r = true := uX8_begins_0
def tX8_byteAt_0 : List (List (Nat × Instr)) := [[(0, .iload_n 1), (1, .aload_n 0), (2, .getfield 183), (5, .if_icmp .ge 12), (8, .aload_n 0), (9, .getfield 67), (12, .iload_n 1), (13, .iaload), (14, .goto 4)], [(17, .iconst (-1)), (18, .ireturn)]]
theorem uX8_byteAt_0 : ∀ r ∈ tX8_byteAt_0, xchk1 cX8_byteAt r = true := fun r hr => List.all_eq_true.mp (by decide +kernel : (tX8_byteAt_0.all (fun r => xchk1 cX8_byteAt r)) = true) r hr
def tX8_byteAt : List (List (Nat × Instr)) := tX8_byteAt_0
theorem uX8_byteAt : ∀ r ∈ tX8_byteAt, xchk1 cX8_byteAt r = true := uX8_byteAt_0
def tX8_copy_0 : List (List (Nat × Instr)) := [[(0, .iload_n 1), (1, .invokestatic 403), (4, .ifCond .eq 10), (7, .iload_n 3), (8, .invokestatic 403), (11, .ifCond .ne 6), (14, .bipush (-2))], [(16, .ireturn), (17, .aload_n 0), (18, .getfield 163), (21, .iload_n 1), (22, .baload), (23, .ifCond .eq 12), (26, .aload_n 0), (27, .getfield 163), (30, .iload_n 3), (31, .baload)], [(32, .ifCond .ne 6), (35, .bipush (-11)), (37, .ireturn), (38, .aload_n 0), (39, .getfield 166), (42, .iload_n 1), (43, .iaload), (44, .aload_n 0), (45, .getfield 166)], [(48, .iload_n 3), (49, .iaload), (50, .if_icmp .eq 6), (53, .bipush (-13)), (55, .ireturn), (56, .iload 5), (58, .ifCond .lt 39), (61, .iload_n 2), (62, .ifCond .lt 35)], [(65, .iload 4), (67, .ifCond .lt 30), (70, .iload_n 2), (71, .aload_n 0), (72, .getfield 169), (75, .iload_n 1), (76, .iaload), (77, .iload 5), (79, .isub)], [(80, .if_icmp .gt 17), (83, .iload 4), (85, .aload_n 0), (86, .getfield 169), (89, .iload_n 3), (90, .iaload), (91, .iload 5), (93, .isub), (94, .if_icmp .le 6)], [(97, .bipush (-12)), (99, .ireturn), (100, .iload_n 1), (101, .iload_n 3), (102, .if_icmp .ne 13), (105, .iload_n 2), (106, .iload 4), (108, .if_icmp .ge 7), (111, .iconst 1)], [(112, .goto 4), (115, .iconst 0), (116, .istore 6), (118, .iconst 0), (119, .istore 7), (121, .iload 7), (123, .iload 5), (125, .if_icmp .ge 57)]]
theorem uX8_copy_0 : ∀ r ∈ tX8_copy_0, xchk1 cX8_copy r = true := fun r hr => List.all_eq_true.mp (by decide +kernel : (tX8_copy_0.all (fun r => xchk1 cX8_copy r)) = true) r hr
def tX8_copy_1 : List (List (Nat × Instr)) := [[(128, .iload 6), (130, .ifCond .eq 13), (133, .iload 5), (135, .iconst 1), (136, .isub), (137, .iload 7), (139, .isub), (140, .goto 5), (143, .iload 7)], [(145, .istore 8), (147, .aload_n 0), (148, .getfield 172), (151, .bipush 40), (153, .iload_n 3), (154, .imul), (155, .iload 4), (157, .iadd), (158, .iload 8)], [(160, .iadd), (161, .aload_n 0), (162, .getfield 172), (165, .bipush 40), (167, .iload_n 1), (168, .imul), (169, .iload_n 2), (170, .iadd), (171, .iload 8), (173, .iadd), (174, .laload), (175, .lastore)], [(176, .iinc 7 1), (179, .goto (-58)), (182, .iload 5), (184, .ireturn)]]
theorem uX8_copy_1 : ∀ r ∈ tX8_copy_1, xchk1 cX8_copy r = true := fun r hr => List.all_eq_true.mp (by decide +kernel : (tX8_copy_1.all (fun r => xchk1 cX8_copy r)) = true) r hr
def tX8_copy : List (List (Nat × Instr)) := tX8_copy_0 ++ (tX8_copy_1)
theorem uX8_copy : ∀ r ∈ tX8_copy, xchk1 cX8_copy r = true := xap uX8_copy_0 (uX8_copy_1)
def tX8_count_0 : List (List (Nat × Instr)) := [[(0, .iload_n 1), (1, .i2l), (2, .lconst 0), (3, .ldc2_w 425), (6, .invokestatic 177), (9, .ifCond .ne 6), (12, .bipush (-2)), (14, .ireturn), (15, .iload_n 1)], [(16, .iconst 2), (17, .if_icmp .eq 8), (20, .iload_n 1), (21, .iconst 3), (22, .if_icmp .ne 11), (25, .aload_n 0), (26, .iload_n 1), (27, .iconst 2), (28, .isub), (29, .invokevirtual 389)], [(32, .ireturn), (33, .iconst 0), (34, .istore_n 2), (35, .iconst 0), (36, .istore_n 3), (37, .iload_n 3), (38, .bipush 8), (40, .if_icmp .ge 18), (43, .iload_n 2), (44, .aload_n 0), (45, .getfield 13)], [(48, .iload_n 3), (49, .iaload), (50, .iadd), (51, .istore_n 2), (52, .iinc 3 1), (55, .goto (-18)), (58, .iload_n 1), (59, .ifCond .ne 10), (62, .aload_n 0), (63, .invokevirtual 422)], [(66, .goto 40), (69, .iload_n 1), (70, .iconst 1), (71, .if_icmp .ne 7), (74, .iload_n 2), (75, .goto 31), (78, .iload_n 1), (79, .iconst 4)], [(80, .if_icmp .ne 10), (83, .aload_n 0), (84, .getfield 378), (87, .goto 19), (90, .iload_n 1), (91, .iconst 5), (92, .if_icmp .ne 10), (95, .aload_n 0)], [(96, .getfield 183), (99, .goto 7), (102, .aload_n 0), (103, .getfield 39), (106, .ireturn)]]
theorem uX8_count_0 : ∀ r ∈ tX8_count_0, xchk1 cX8_count r = true := fun r hr => List.all_eq_true.mp (by decide +kernel : (tX8_count_0.all (fun r => xchk1 cX8_count r)) = true) r hr
def tX8_count : List (List (Nat × Instr)) := tX8_count_0
theorem uX8_count : ∀ r ∈ tX8_count, xchk1 cX8_count r = true := uX8_count_0
def tX8_cuts_0 : List (List (Nat × Instr)) := [[(0, .aload_n 0), (1, .getfield 26), (4, .iload_n 1), (5, .laload), (6, .l2i), (7, .istore_n 3), (8, .lconst 0), (9, .lstore 4), (11, .iconst 0), (12, .istore 6), (14, .iload 6)], [(16, .iload_n 3), (17, .if_icmp .ge 42), (20, .aload_n 0), (21, .iload_n 1), (22, .iconst 1), (23, .iadd), (24, .iload_n 3), (25, .iload_n 2), (26, .imul), (27, .iload 6), (29, .iadd), (30, .invokevirtual 348)], [(33, .istore 7), (35, .iload 7), (37, .iconst 1), (38, .if_icmp .eq 6), (41, .iload 7), (43, .ireturn), (44, .lload 4), (46, .aload_n 0), (47, .getfield 351)], [(50, .ladd), (51, .lstore 4), (53, .iinc 6 1), (56, .goto (-42)), (59, .aload_n 0), (60, .lload 4), (62, .putfield 351)], [(65, .iconst 1), (66, .ireturn)]]
theorem uX8_cuts_0 : ∀ r ∈ tX8_cuts_0, xchk1 cX8_cuts r = true := fun r hr => List.all_eq_true.mp (by decide +kernel : (tX8_cuts_0.all (fun r => xchk1 cX8_cuts r)) = true) r hr
def tX8_cuts : List (List (Nat × Instr)) := tX8_cuts_0
theorem uX8_cuts : ∀ r ∈ tX8_cuts, xchk1 cX8_cuts r = true := uX8_cuts_0
def tX8_differ_0 : List (List (Nat × Instr)) := [[(0, .iload_n 1), (1, .invokestatic 266), (4, .ifCond .eq 22), (7, .iload_n 2), (8, .invokestatic 266), (11, .ifCond .eq 15), (14, .iload_n 3), (15, .i2l)], [(16, .lconst 0), (17, .ldc2_w 395), (20, .invokestatic 177), (23, .ifCond .ne 6), (26, .bipush (-2)), (28, .ireturn), (29, .aload_n 0), (30, .getfield 13)], [(33, .iload_n 1), (34, .iaload), (35, .ifCond .eq 12), (38, .aload_n 0), (39, .getfield 13), (42, .iload_n 2), (43, .iaload), (44, .ifCond .ne 6), (47, .bipush (-3))], [(49, .ireturn), (50, .aload_n 0), (51, .aload_n 0), (52, .getfield 39), (55, .invokevirtual 375), (58, .iconst (-1)), (59, .istore 4), (61, .iconst 1), (62, .istore 5)], [(64, .iconst 0), (65, .istore 6), (67, .iload 6), (69, .iload_n 3), (70, .if_icmp .ge 122), (73, .iload 5), (75, .ifCond .eq 117), (78, .aload_n 0), (79, .iload_n 1)], [(80, .iload 6), (82, .invokevirtual 381), (85, .istore 7), (87, .aload_n 0), (88, .getfield 351), (91, .lstore 8), (93, .iload 7), (95, .bipush (-6))], [(97, .if_icmp .ne 8), (100, .bipush (-6)), (102, .goto 10), (105, .aload_n 0), (106, .iload_n 2), (107, .iload 6), (109, .invokevirtual 381)], [(112, .istore 10), (114, .iload 7), (116, .iconst 1), (117, .if_icmp .ne 23), (120, .iload 10), (122, .iconst 1), (123, .if_icmp .ne 17), (126, .lload 8)]]
theorem uX8_differ_0 : ∀ r ∈ tX8_differ_0, xchk1 cX8_differ r = true := fun r hr => List.all_eq_true.mp (by decide +kernel : (tX8_differ_0.all (fun r => xchk1 cX8_differ r)) = true) r hr
def tX8_differ_1 : List (List (Nat × Instr)) := [[(128, .aload_n 0), (129, .getfield 351), (132, .lcmp), (133, .ifCond .ne 7), (136, .iconst 1), (137, .goto 4), (140, .iconst 0), (141, .istore 5), (143, .iload 10)], [(145, .bipush (-6)), (147, .if_icmp .ne 8), (150, .bipush (-6)), (152, .goto 32), (155, .iload 7), (157, .iload 10), (159, .if_icmp .ne 19)], [(162, .iload 7), (164, .iconst 1), (165, .if_icmp .ne 18), (168, .lload 8), (170, .aload_n 0), (171, .getfield 351), (174, .lcmp), (175, .ifCond .eq 8)], [(178, .iload 6), (180, .goto 4), (183, .iconst (-1)), (184, .istore 4), (186, .iinc 6 1), (189, .goto (-122))], [(192, .aload_n 0), (193, .aload_n 0), (194, .getfield 326), (197, .putfield 378), (200, .iload 4), (202, .ireturn)]]
theorem uX8_differ_1 : ∀ r ∈ tX8_differ_1, xchk1 cX8_differ r = true := fun r hr => List.all_eq_true.mp (by decide +kernel : (tX8_differ_1.all (fun r => xchk1 cX8_differ r)) = true) r hr
def tX8_differ : List (List (Nat × Instr)) := tX8_differ_0 ++ (tX8_differ_1)
theorem uX8_differ : ∀ r ∈ tX8_differ, xchk1 cX8_differ r = true := xap uX8_differ_0 (uX8_differ_1)
def tX8_digits_0 : List (List (Nat × Instr)) := [[(0, .lload_n 1), (1, .lconst 0), (2, .lcmp), (3, .ifCond .ge 13), (6, .aload_n 0), (7, .invokevirtual 304), (10, .aload_n 0), (11, .bipush 45), (13, .invokevirtual 301)], [(16, .aload_n 0), (17, .invokevirtual 304), (20, .aload_n 0), (21, .getfield 298), (24, .istore_n 3), (25, .lload_n 1), (26, .lstore 4), (28, .iconst 1), (29, .istore 6), (31, .iload 6)], [(33, .ifCond .eq 59), (36, .lload 4), (38, .ldc2_w 307), (41, .lrem), (42, .lstore 7), (44, .aload_n 0), (45, .bipush 48), (47, .lload 7)], [(49, .lconst 0), (50, .lcmp), (51, .ifCond .ge 9), (54, .lload 7), (56, .lneg), (57, .goto 5), (60, .lload 7), (62, .l2i), (63, .iadd)], [(64, .invokevirtual 301), (67, .lload 4), (69, .ldc2_w 307), (72, .ldiv), (73, .lstore 4), (75, .lload 4), (77, .lconst 0), (78, .lcmp), (79, .ifCond .eq 7)], [(82, .iconst 1), (83, .goto 4), (86, .iconst 0), (87, .istore 6), (89, .goto (-58)), (92, .iload_n 3), (93, .istore 7), (95, .aload_n 0)], [(96, .getfield 298), (99, .iconst 1), (100, .isub), (101, .istore 8), (103, .iload 7), (105, .iload 8), (107, .if_icmp .ge 44), (110, .aload_n 0), (111, .getfield 91)], [(114, .iload 7), (116, .iaload), (117, .istore 9), (119, .aload_n 0), (120, .getfield 91), (123, .iload 7), (125, .aload_n 0), (126, .getfield 91)]]
theorem uX8_digits_0 : ∀ r ∈ tX8_digits_0, xchk1 cX8_digits r = true := fun r hr => List.all_eq_true.mp (by decide +kernel : (tX8_digits_0.all (fun r => xchk1 cX8_digits r)) = true) r hr
def tX8_digits_1 : List (List (Nat × Instr)) := [[(129, .iload 8), (131, .iaload), (132, .iastore), (133, .aload_n 0), (134, .getfield 91), (137, .iload 8), (139, .iload 9), (141, .iastore), (142, .iinc 8 (-1))], [(145, .iinc 7 1), (148, .goto (-45)), (151, .return_)]]
theorem uX8_digits_1 : ∀ r ∈ tX8_digits_1, xchk1 cX8_digits r = true := fun r hr => List.all_eq_true.mp (by decide +kernel : (tX8_digits_1.all (fun r => xchk1 cX8_digits r)) = true) r hr
def tX8_digits : List (List (Nat × Instr)) := tX8_digits_0 ++ (tX8_digits_1)
theorem uX8_digits : ∀ r ∈ tX8_digits, xchk1 cX8_digits r = true := xap uX8_digits_0 (uX8_digits_1)
def tX8_empty_0 : List (List (Nat × Instr)) := [[(0, .iload_n 1), (1, .invokestatic 266), (4, .ifCond .ne 6), (7, .bipush (-2)), (9, .ireturn), (10, .aload_n 0), (11, .getfield 13), (14, .iload_n 1), (15, .iaload)], [(16, .istore_n 2), (17, .aload_n 0), (18, .getfield 13), (21, .iload_n 1), (22, .iconst 0), (23, .iastore), (24, .aload_n 0), (25, .invokevirtual 269), (28, .iload_n 2), (29, .ireturn)]]
theorem uX8_empty_0 : ∀ r ∈ tX8_empty_0, xchk1 cX8_empty r = true := fun r hr => List.all_eq_true.mp (by decide +kernel : (tX8_empty_0.all (fun r => xchk1 cX8_empty r)) = true) r hr
def tX8_empty : List (List (Nat × Instr)) := tX8_empty_0
theorem uX8_empty : ∀ r ∈ tX8_empty, xchk1 cX8_empty r = true := uX8_empty_0
def tX8_entry_0 : List (List (Nat × Instr)) := [[(0, .iload_n 1), (1, .invokestatic 266), (4, .ifCond .eq 69), (7, .aload_n 0), (8, .iload_n 1), (9, .iload_n 2), (10, .invokevirtual 276), (13, .ifCond .eq 60)], [(16, .aload_n 0), (17, .getfield 17), (20, .bipush 24), (22, .iload_n 1), (23, .imul), (24, .iload_n 2), (25, .iadd), (26, .iaload), (27, .iconst 2), (28, .if_icmp .ne 45), (31, .iload_n 3)], [(32, .i2l), (33, .lconst 0), (34, .aload_n 0), (35, .getfield 33), (38, .bipush 24), (40, .iload_n 1), (41, .imul), (42, .iload_n 2), (43, .iadd), (44, .iaload), (45, .iconst 1), (46, .isub), (47, .i2l)], [(48, .invokestatic 177), (51, .ifCond .eq 22), (54, .aload_n 0), (55, .getfield 36), (58, .bipush 8), (60, .bipush 24), (62, .iload_n 1), (63, .imul)], [(64, .iload_n 2), (65, .iadd), (66, .imul), (67, .iload_n 3), (68, .iadd), (69, .laload), (70, .goto 6), (73, .ldc2_w 285), (76, .lreturn)]]
theorem uX8_entry_0 : ∀ r ∈ tX8_entry_0, xchk1 cX8_entry r = true := fun r hr => List.all_eq_true.mp (by decide +kernel : (tX8_entry_0.all (fun r => xchk1 cX8_entry r)) = true) r hr
def tX8_entry : List (List (Nat × Instr)) := tX8_entry_0
theorem uX8_entry : ∀ r ∈ tX8_entry, xchk1 cX8_entry r = true := uX8_entry_0
def tX8_fail_0 : List (List (Nat × Instr)) := [[(0, .aload_n 0), (1, .getfield 218), (4, .ifCond .ne 16), (7, .aload_n 0), (8, .iconst 1), (9, .putfield 218), (12, .aload_n 0), (13, .aload_n 0), (14, .getfield 193)], [(17, .putfield 222), (20, .return_)]]
theorem uX8_fail_0 : ∀ r ∈ tX8_fail_0, xchk1 cX8_fail r = true := fun r hr => List.all_eq_true.mp (by decide +kernel : (tX8_fail_0.all (fun r => xchk1 cX8_fail r)) = true) r hr
def tX8_fail : List (List (Nat × Instr)) := tX8_fail_0
theorem uX8_fail : ∀ r ∈ tX8_fail, xchk1 cX8_fail r = true := uX8_fail_0
def tX8_feed_0 : List (List (Nat × Instr)) := [[(0, .iload_n 1), (1, .i2l), (2, .lconst 0), (3, .ldc2_w 181), (6, .invokestatic 177), (9, .ifCond .ne 6), (12, .bipush (-2)), (14, .ireturn), (15, .aload_n 0)], [(16, .getfield 183), (19, .bipush 120), (21, .if_icmp .ne 6), (24, .bipush (-4)), (26, .ireturn), (27, .aload_n 0), (28, .getfield 67), (31, .aload_n 0)], [(32, .getfield 183), (35, .iload_n 1), (36, .iastore), (37, .aload_n 0), (38, .dup), (39, .getfield 183), (42, .iconst 1), (43, .iadd), (44, .putfield 183), (47, .aload_n 0)], [(48, .getfield 183), (51, .ireturn)]]
theorem uX8_feed_0 : ∀ r ∈ tX8_feed_0, xchk1 cX8_feed r = true := fun r hr => List.all_eq_true.mp (by decide +kernel : (tX8_feed_0.all (fun r => xchk1 cX8_feed r)) = true) r hr
def tX8_feed : List (List (Nat × Instr)) := tX8_feed_0
theorem uX8_feed : ∀ r ∈ tX8_feed, xchk1 cX8_feed r = true := uX8_feed_0
def tX8_film_0 : List (List (Nat × Instr)) := [[(0, .iload_n 1), (1, .invokestatic 403), (4, .ifCond .eq 22), (7, .iload_n 2), (8, .invokestatic 266), (11, .ifCond .eq 15), (14, .iload_n 3), (15, .i2l)], [(16, .lconst 0), (17, .ldc2_w 406), (20, .invokestatic 177), (23, .ifCond .ne 6), (26, .bipush (-2)), (28, .ireturn), (29, .aload_n 0), (30, .getfield 13)], [(33, .iload_n 2), (34, .iaload), (35, .ifCond .ne 6), (38, .bipush (-3)), (40, .ireturn), (41, .aload_n 0), (42, .aload_n 0), (43, .getfield 39), (46, .invokevirtual 375)], [(49, .iconst 0), (50, .istore 4), (52, .iconst 1), (53, .istore 5), (55, .iconst 0), (56, .istore 6), (58, .iload 6), (60, .iload_n 3), (61, .if_icmp .ge 51)], [(64, .iload 5), (66, .iconst 1), (67, .if_icmp .ne 45), (70, .aload_n 0), (71, .iload_n 2), (72, .iload 6), (74, .invokevirtual 381), (77, .istore 5), (79, .aload_n 0)], [(80, .getfield 115), (83, .iload 6), (85, .aload_n 0), (86, .getfield 351), (89, .lastore), (90, .iload 4), (92, .iload 5), (94, .iconst 1), (95, .if_icmp .ne 7)], [(98, .iconst 1), (99, .goto 4), (102, .iconst 0), (103, .iadd), (104, .istore 4), (106, .iinc 6 1), (109, .goto (-51))], [(112, .aload_n 0), (113, .aload_n 0), (114, .getfield 326), (117, .putfield 378), (120, .iload 5), (122, .bipush (-6)), (124, .if_icmp .ne 6), (127, .bipush (-6))]]
theorem uX8_film_0 : ∀ r ∈ tX8_film_0, xchk1 cX8_film r = true := fun r hr => List.all_eq_true.mp (by decide +kernel : (tX8_film_0.all (fun r => xchk1 cX8_film r)) = true) r hr
def tX8_film_1 : List (List (Nat × Instr)) := [[(129, .ireturn), (130, .aload_n 0), (131, .iload_n 1), (132, .iconst 0), (133, .iload 4), (135, .invokevirtual 408), (138, .pop), (139, .iconst 0), (140, .istore 6), (142, .iload 6)], [(144, .iload 4), (146, .if_icmp .ge 28), (149, .aload_n 0), (150, .getfield 172), (153, .bipush 40), (155, .iload_n 1), (156, .imul), (157, .iload 6), (159, .iadd)], [(160, .aload_n 0), (161, .getfield 115), (164, .iload 6), (166, .laload), (167, .lastore), (168, .iinc 6 1), (171, .goto (-29)), (174, .iload 4)], [(176, .ireturn)]]
theorem uX8_film_1 : ∀ r ∈ tX8_film_1, xchk1 cX8_film r = true := fun r hr => List.all_eq_true.mp (by decide +kernel : (tX8_film_1.all (fun r => xchk1 cX8_film r)) = true) r hr
def tX8_film : List (List (Nat × Instr)) := tX8_film_0 ++ (tX8_film_1)
theorem uX8_film : ∀ r ∈ tX8_film, xchk1 cX8_film r = true := xap uX8_film_0 (uX8_film_1)
def tX8_find_0 : List (List (Nat × Instr)) := [[(0, .iload_n 1), (1, .invokestatic 266), (4, .ifCond .eq 16), (7, .iload 4), (9, .i2l), (10, .lconst 0), (11, .ldc2_w 395), (14, .invokestatic 177)], [(17, .ifCond .ne 6), (20, .bipush (-2)), (22, .ireturn), (23, .aload_n 0), (24, .getfield 13), (27, .iload_n 1), (28, .iaload), (29, .ifCond .ne 6)], [(32, .bipush (-3)), (34, .ireturn), (35, .aload_n 0), (36, .aload_n 0), (37, .getfield 39), (40, .invokevirtual 375), (43, .iconst (-1)), (44, .istore 5), (46, .iconst 1), (47, .istore 6)], [(49, .iconst 0), (50, .istore 7), (52, .iload 7), (54, .iload 4), (56, .if_icmp .ge 65), (59, .iload 6), (61, .iconst 1), (62, .if_icmp .ne 59)], [(65, .iload 5), (67, .iconst (-1)), (68, .if_icmp .ne 53), (71, .aload_n 0), (72, .iload_n 1), (73, .iload 7), (75, .invokevirtual 381), (78, .istore 6)], [(80, .iload 6), (82, .iconst 1), (83, .if_icmp .ne 17), (86, .aload_n 0), (87, .getfield 351), (90, .lload_n 2), (91, .lcmp), (92, .ifCond .ne 8), (95, .iload 7)], [(97, .goto 16), (100, .iload 6), (102, .bipush (-6)), (104, .if_icmp .ne 8), (107, .bipush (-6)), (109, .goto 4)], [(112, .iconst (-1)), (113, .istore 5), (115, .iinc 7 1), (118, .goto (-66)), (121, .aload_n 0), (122, .aload_n 0), (123, .getfield 326), (126, .putfield 378)]]
theorem uX8_find_0 : ∀ r ∈ tX8_find_0, xchk1 cX8_find r = true := fun r hr => List.all_eq_true.mp (by decide +kernel : (tX8_find_0.all (fun r => xchk1 cX8_find r)) = true) r hr
def tX8_find_1 : List (List (Nat × Instr)) := [[(129, .iload 5), (131, .ireturn)]]
theorem uX8_find_1 : ∀ r ∈ tX8_find_1, xchk1 cX8_find r = true := fun r hr => List.all_eq_true.mp (by decide +kernel : (tX8_find_1.all (fun r => xchk1 cX8_find r)) = true) r hr
def tX8_find : List (List (Nat × Instr)) := tX8_find_0 ++ (tX8_find_1)
theorem uX8_find : ∀ r ∈ tX8_find, xchk1 cX8_find r = true := xap uX8_find_0 (uX8_find_1)
def tX8_followed_0 : List (List (Nat × Instr)) := [[(0, .iload_n 1), (1, .istore_n 2), (2, .iconst 0), (3, .istore_n 3), (4, .iload_n 3), (5, .bipush 8), (7, .if_icmp .gt 48), (10, .aload_n 0), (11, .getfield 17), (14, .iload_n 2), (15, .iaload)], [(16, .ifCond .eq 5), (19, .iload_n 2), (20, .ireturn), (21, .aload_n 0), (22, .getfield 26), (25, .iload_n 2), (26, .laload), (27, .l2i), (28, .istore 4), (30, .aload_n 0), (31, .getfield 13)], [(34, .iload 4), (36, .iaload), (37, .ifCond .ne 6), (40, .bipush (-23)), (42, .ireturn), (43, .bipush 24), (45, .iload 4), (47, .imul)], [(48, .istore_n 2), (49, .iinc 3 1), (52, .goto (-48)), (55, .bipush (-21)), (57, .ireturn)]]
theorem uX8_followed_0 : ∀ r ∈ tX8_followed_0, xchk1 cX8_followed r = true := fun r hr => List.all_eq_true.mp (by decide +kernel : (tX8_followed_0.all (fun r => xchk1 cX8_followed r)) = true) r hr
def tX8_followed : List (List (Nat × Instr)) := tX8_followed_0
theorem uX8_followed : ∀ r ∈ tX8_followed, xchk1 cX8_followed r = true := uX8_followed_0
def tX8_forget_0 : List (List (Nat × Instr)) := [[(0, .aload_n 0), (1, .iconst 0), (2, .invokevirtual 389), (5, .aload_n 0), (6, .iconst 1), (7, .invokevirtual 389), (10, .iadd), (11, .istore_n 1), (12, .aload_n 0), (13, .invokevirtual 269)], [(16, .iload_n 1), (17, .ireturn)]]
theorem uX8_forget_0 : ∀ r ∈ tX8_forget_0, xchk1 cX8_forget r = true := fun r hr => List.all_eq_true.mp (by decide +kernel : (tX8_forget_0.all (fun r => xchk1 cX8_forget r)) = true) r hr
def tX8_forget : List (List (Nat × Instr)) := tX8_forget_0
theorem uX8_forget : ∀ r ∈ tX8_forget, xchk1 cX8_forget r = true := uX8_forget_0
def tX8_full_0 : List (List (Nat × Instr)) := [[(0, .iconst 0), (1, .istore_n 1), (2, .iconst 0), (3, .istore_n 2), (4, .iload_n 2), (5, .bipush 8), (7, .if_icmp .ge 26), (10, .iload_n 1), (11, .aload_n 0), (12, .getfield 13), (15, .iload_n 2)], [(16, .iaload), (17, .ifCond .le 7), (20, .iconst 1), (21, .goto 4), (24, .iconst 0), (25, .iadd), (26, .istore_n 1), (27, .iinc 2 1), (30, .goto (-26))], [(33, .iload_n 1), (34, .ireturn)]]
theorem uX8_full_0 : ∀ r ∈ tX8_full_0, xchk1 cX8_full r = true := fun r hr => List.all_eq_true.mp (by decide +kernel : (tX8_full_0.all (fun r => xchk1 cX8_full r)) = true) r hr
def tX8_full : List (List (Nat × Instr)) := tX8_full_0
theorem uX8_full : ∀ r ∈ tX8_full, xchk1 cX8_full r = true := uX8_full_0
def tX8_gap_0 : List (List (Nat × Instr)) := [[(0, .aload_n 0), (1, .getfield 298), (4, .ifCond .le 9), (7, .aload_n 0), (8, .bipush 32), (10, .invokevirtual 301), (13, .return_)]]
theorem uX8_gap_0 : ∀ r ∈ tX8_gap_0, xchk1 cX8_gap r = true := fun r hr => List.all_eq_true.mp (by decide +kernel : (tX8_gap_0.all (fun r => xchk1 cX8_gap r)) = true) r hr
def tX8_gap : List (List (Nat × Instr)) := tX8_gap_0
theorem uX8_gap : ∀ r ∈ tX8_gap, xchk1 cX8_gap r = true := uX8_gap_0
def tX8_groupOf_0 : List (List (Nat × Instr)) := [[(0, .iload_n 0), (1, .iconst 3), (2, .if_icmp .ge 7), (5, .iconst 0), (6, .goto 20), (9, .iload_n 0), (10, .bipush 6), (12, .if_icmp .eq 9), (15, .iload_n 0)], [(16, .bipush 7), (18, .if_icmp .ne 7), (21, .iconst 2), (22, .goto 4), (25, .iconst 1), (26, .ireturn)]]
theorem uX8_groupOf_0 : ∀ r ∈ tX8_groupOf_0, xchk1 cX8_groupOf r = true := fun r hr => List.all_eq_true.mp (by decide +kernel : (tX8_groupOf_0.all (fun r => xchk1 cX8_groupOf r)) = true) r hr
def tX8_groupOf : List (List (Nat × Instr)) := tX8_groupOf_0
theorem uX8_groupOf : ∀ r ∈ tX8_groupOf, xchk1 cX8_groupOf r = true := uX8_groupOf_0
def tX8_head_0 : List (List (Nat × Instr)) := [[(0, .aload_n 0), (1, .iload_n 1), (2, .iload_n 2), (3, .invokevirtual 384), (6, .iconst 1), (7, .if_icmp .ne 10), (10, .aload_n 0), (11, .getfield 351), (14, .goto 6)], [(17, .ldc2_w 285), (20, .lreturn)]]
theorem uX8_head_0 : ∀ r ∈ tX8_head_0, xchk1 cX8_head r = true := fun r hr => List.all_eq_true.mp (by decide +kernel : (tX8_head_0.all (fun r => xchk1 cX8_head r)) = true) r hr
def tX8_head : List (List (Nat × Instr)) := tX8_head_0
theorem uX8_head : ∀ r ∈ tX8_head, xchk1 cX8_head r = true := uX8_head_0
def tX8_headAsked_0 : List (List (Nat × Instr)) := [[(0, .aload_n 0), (1, .iload_n 1), (2, .invokevirtual 323), (5, .istore_n 3), (6, .iload_n 3), (7, .ifCond .ge 5), (10, .iload_n 3), (11, .ireturn), (12, .bipush 64), (14, .iload_n 3), (15, .imul)], [(16, .iload_n 2), (17, .iadd), (18, .istore 4), (20, .aload_n 0), (21, .getfield 58), (24, .iload 4), (26, .iaload), (27, .iconst 1), (28, .if_icmp .ne 14), (31, .aload_n 0)], [(32, .aload_n 0), (33, .getfield 61), (36, .iload 4), (38, .laload), (39, .putfield 351), (42, .aload_n 0), (43, .getfield 58), (46, .iload 4)], [(48, .iaload), (49, .ifCond .eq 27), (52, .aload_n 0), (53, .getfield 58), (56, .iload 4), (58, .iaload), (59, .iconst 2), (60, .if_icmp .ne 8), (63, .bipush (-21))], [(65, .goto 10), (68, .aload_n 0), (69, .getfield 58), (72, .iload 4), (74, .iaload), (75, .ireturn), (76, .aload_n 0), (77, .getfield 326)], [(80, .aload_n 0), (81, .getfield 329), (84, .if_icmp .ne 6), (87, .bipush (-6)), (89, .ireturn), (90, .aload_n 0), (91, .dup), (92, .getfield 326), (95, .iconst 1)], [(96, .iadd), (97, .putfield 326), (100, .aload_n 0), (101, .getfield 58), (104, .iload 4), (106, .iconst 2), (107, .iastore), (108, .aload_n 0), (109, .iload_n 3), (110, .iload_n 2), (111, .invokevirtual 363)], [(114, .istore 5), (116, .aload_n 0), (117, .getfield 58), (120, .iload 4), (122, .iload 5), (124, .bipush (-6)), (126, .if_icmp .ne 7)]]
theorem uX8_headAsked_0 : ∀ r ∈ tX8_headAsked_0, xchk1 cX8_headAsked r = true := fun r hr => List.all_eq_true.mp (by decide +kernel : (tX8_headAsked_0.all (fun r => xchk1 cX8_headAsked r)) = true) r hr
def tX8_headAsked_1 : List (List (Nat × Instr)) := [[(129, .iconst 0), (130, .goto 5), (133, .iload 5), (135, .iastore), (136, .aload_n 0), (137, .getfield 61), (140, .iload 4), (142, .aload_n 0), (143, .getfield 351)], [(146, .lastore), (147, .iload 5), (149, .ireturn)]]
theorem uX8_headAsked_1 : ∀ r ∈ tX8_headAsked_1, xchk1 cX8_headAsked r = true := fun r hr => List.all_eq_true.mp (by decide +kernel : (tX8_headAsked_1.all (fun r => xchk1 cX8_headAsked r)) = true) r hr
def tX8_headAsked : List (List (Nat × Instr)) := tX8_headAsked_0 ++ (tX8_headAsked_1)
theorem uX8_headAsked : ∀ r ∈ tX8_headAsked, xchk1 cX8_headAsked r = true := xap uX8_headAsked_0 (uX8_headAsked_1)
def tX8_image_0 : List (List (Nat × Instr)) := [[(0, .iconst 0), (1, .istore_n 1), (2, .iload_n 1), (3, .bipush 8), (5, .if_icmp .ge 21), (8, .aload_n 0), (9, .getfield 118), (12, .iload_n 1), (13, .aload_n 0), (14, .getfield 13)], [(17, .iload_n 1), (18, .iaload), (19, .iastore), (20, .iinc 1 1), (23, .goto (-21)), (26, .iconst 0), (27, .istore_n 1), (28, .iload_n 1), (29, .sipush 192)], [(32, .if_icmp .ge 129), (35, .aload_n 0), (36, .getfield 121), (39, .iload_n 1), (40, .aload_n 0), (41, .getfield 17), (44, .iload_n 1), (45, .iaload), (46, .iastore), (47, .aload_n 0)], [(48, .getfield 124), (51, .iload_n 1), (52, .aload_n 0), (53, .getfield 20), (56, .iload_n 1), (57, .iaload), (58, .iastore), (59, .aload_n 0), (60, .getfield 127), (63, .iload_n 1)], [(64, .aload_n 0), (65, .getfield 23), (68, .iload_n 1), (69, .iaload), (70, .iastore), (71, .aload_n 0), (72, .getfield 130), (75, .iload_n 1), (76, .aload_n 0), (77, .getfield 26)], [(80, .iload_n 1), (81, .laload), (82, .lastore), (83, .aload_n 0), (84, .getfield 133), (87, .iload_n 1), (88, .aload_n 0), (89, .getfield 30), (92, .iload_n 1), (93, .laload), (94, .lastore), (95, .aload_n 0)], [(96, .getfield 136), (99, .iload_n 1), (100, .aload_n 0), (101, .getfield 33), (104, .iload_n 1), (105, .iaload), (106, .iastore), (107, .aload_n 0), (108, .getfield 142), (111, .iload_n 1)], [(112, .aload_n 0), (113, .getfield 42), (116, .iload_n 1), (117, .iaload), (118, .iastore), (119, .aload_n 0), (120, .getfield 145), (123, .iload_n 1), (124, .aload_n 0), (125, .getfield 45)]]
theorem uX8_image_0 : ∀ r ∈ tX8_image_0, xchk1 cX8_image r = true := fun r hr => List.all_eq_true.mp (by decide +kernel : (tX8_image_0.all (fun r => xchk1 cX8_image r)) = true) r hr
def tX8_image_1 : List (List (Nat × Instr)) := [[(128, .iload_n 1), (129, .iaload), (130, .iastore), (131, .aload_n 0), (132, .getfield 148), (135, .iload_n 1), (136, .aload_n 0), (137, .getfield 52), (140, .iload_n 1), (141, .iaload), (142, .iastore), (143, .aload_n 0)], [(144, .getfield 151), (147, .iload_n 1), (148, .aload_n 0), (149, .getfield 55), (152, .iload_n 1), (153, .iaload), (154, .iastore), (155, .iinc 1 1), (158, .goto (-130))], [(161, .iconst 0), (162, .istore_n 1), (163, .iload_n 1), (164, .sipush 1536), (167, .if_icmp .ge 21), (170, .aload_n 0), (171, .getfield 139), (174, .iload_n 1), (175, .aload_n 0)], [(176, .getfield 36), (179, .iload_n 1), (180, .laload), (181, .lastore), (182, .iinc 1 1), (185, .goto (-22)), (188, .iconst 0), (189, .istore_n 1), (190, .iload_n 1), (191, .sipush 12288)], [(194, .if_icmp .ge 45), (197, .aload_n 0), (198, .getfield 154), (201, .iload_n 1), (202, .aload_n 0), (203, .getfield 58), (206, .iload_n 1), (207, .iaload)], [(208, .iastore), (209, .aload_n 0), (210, .getfield 157), (213, .iload_n 1), (214, .aload_n 0), (215, .getfield 61), (218, .iload_n 1), (219, .laload), (220, .lastore), (221, .aload_n 0), (222, .getfield 160)], [(225, .iload_n 1), (226, .aload_n 0), (227, .getfield 64), (230, .iload_n 1), (231, .iaload), (232, .iastore), (233, .iinc 1 1), (236, .goto (-46)), (239, .aload_n 0)], [(240, .aload_n 0), (241, .getfield 39), (244, .putfield 416), (247, .aload_n 0), (248, .iconst 1), (249, .putfield 419), (252, .aload_n 0), (253, .invokevirtual 422)]]
theorem uX8_image_1 : ∀ r ∈ tX8_image_1, xchk1 cX8_image r = true := fun r hr => List.all_eq_true.mp (by decide +kernel : (tX8_image_1.all (fun r => xchk1 cX8_image r)) = true) r hr
def tX8_image_2 : List (List (Nat × Instr)) := [[(256, .ireturn)]]
theorem uX8_image_2 : ∀ r ∈ tX8_image_2, xchk1 cX8_image r = true := fun r hr => List.all_eq_true.mp (by decide +kernel : (tX8_image_2.all (fun r => xchk1 cX8_image r)) = true) r hr
def tX8_image : List (List (Nat × Instr)) := tX8_image_0 ++ (tX8_image_1 ++ (tX8_image_2))
theorem uX8_image : ∀ r ∈ tX8_image, xchk1 cX8_image r = true := xap uX8_image_0 (xap uX8_image_1 (uX8_image_2))
def tX8_in_0 : List (List (Nat × Instr)) := [[(0, .lload_n 0), (1, .lload_n 2), (2, .lcmp), (3, .ifCond .lt 14), (6, .lload_n 0), (7, .lload 4), (9, .lcmp), (10, .ifCond .gt 7), (13, .iconst 1), (14, .goto 4)], [(17, .iconst 0), (18, .ireturn)]]
theorem uX8_in_0 : ∀ r ∈ tX8_in_0, xchk1 cX8_in r = true := fun r hr => List.all_eq_true.mp (by decide +kernel : (tX8_in_0.all (fun r => xchk1 cX8_in r)) = true) r hr
def tX8_in : List (List (Nat × Instr)) := tX8_in_0
theorem uX8_in : ∀ r ∈ tX8_in, xchk1 cX8_in r = true := uX8_in_0
def tX8_init_0 : List (List (Nat × Instr)) := [[(0, .aload_n 0), (1, .invokespecial 7), (4, .aload_n 0), (5, .bipush 8), (7, .newarray .int), (9, .putfield 13), (12, .aload_n 0), (13, .sipush 192)], [(16, .newarray .int), (18, .putfield 17), (21, .aload_n 0), (22, .sipush 192), (25, .newarray .int), (27, .putfield 20), (30, .aload_n 0), (31, .sipush 192)], [(34, .newarray .int), (36, .putfield 23), (39, .aload_n 0), (40, .sipush 192), (43, .newarray .long), (45, .putfield 26)], [(48, .aload_n 0), (49, .sipush 192), (52, .newarray .long), (54, .putfield 30), (57, .aload_n 0), (58, .sipush 192), (61, .newarray .int), (63, .putfield 33)], [(66, .aload_n 0), (67, .sipush 1536), (70, .newarray .long), (72, .putfield 36), (75, .aload_n 0), (76, .bipush 99), (78, .putfield 39)], [(81, .aload_n 0), (82, .sipush 192), (85, .newarray .int), (87, .putfield 42), (90, .aload_n 0), (91, .sipush 192), (94, .newarray .int)], [(96, .putfield 45), (99, .aload_n 0), (100, .sipush 192), (103, .newarray .boolean), (105, .putfield 48), (108, .aload_n 0), (109, .sipush 192)], [(112, .newarray .int), (114, .putfield 52), (117, .aload_n 0), (118, .sipush 192), (121, .newarray .int), (123, .putfield 55), (126, .aload_n 0), (127, .sipush 12288)]]
theorem uX8_init_0 : ∀ r ∈ tX8_init_0, xchk1 cX8_init r = true := fun r hr => List.all_eq_true.mp (by decide +kernel : (tX8_init_0.all (fun r => xchk1 cX8_init r)) = true) r hr
def tX8_init_1 : List (List (Nat × Instr)) := [[(130, .newarray .int), (132, .putfield 58), (135, .aload_n 0), (136, .sipush 12288), (139, .newarray .long), (141, .putfield 61)], [(144, .aload_n 0), (145, .sipush 12288), (148, .newarray .int), (150, .putfield 64), (153, .aload_n 0), (154, .bipush 120), (156, .newarray .int), (158, .putfield 67)], [(161, .aload_n 0), (162, .bipush 24), (164, .newarray .int), (166, .putfield 70), (169, .aload_n 0), (170, .bipush 24), (172, .newarray .int), (174, .putfield 73)], [(177, .aload_n 0), (178, .bipush 24), (180, .newarray .int), (182, .putfield 76), (185, .aload_n 0), (186, .bipush 24), (188, .newarray .long), (190, .putfield 79)], [(193, .aload_n 0), (194, .bipush 24), (196, .newarray .long), (198, .putfield 82), (201, .aload_n 0), (202, .bipush 24), (204, .newarray .int), (206, .putfield 85)], [(209, .aload_n 0), (210, .sipush 192), (213, .newarray .long), (215, .putfield 88), (218, .aload_n 0), (219, .sipush 4096), (222, .newarray .int)], [(224, .putfield 91), (227, .aload_n 0), (228, .sipush 192), (231, .newarray .int), (233, .putfield 94), (236, .aload_n 0), (237, .sipush 192)], [(240, .newarray .int), (242, .putfield 97), (245, .aload_n 0), (246, .sipush 192), (249, .newarray .int), (251, .putfield 100), (254, .aload_n 0), (255, .sipush 192)]]
theorem uX8_init_1 : ∀ r ∈ tX8_init_1, xchk1 cX8_init r = true := fun r hr => List.all_eq_true.mp (by decide +kernel : (tX8_init_1.all (fun r => xchk1 cX8_init r)) = true) r hr
def tX8_init_2 : List (List (Nat × Instr)) := [[(258, .newarray .int), (260, .putfield 103), (263, .aload_n 0), (264, .sipush 12288), (267, .newarray .int), (269, .putfield 106)], [(272, .aload_n 0), (273, .sipush 12288), (276, .newarray .long), (278, .putfield 109), (281, .aload_n 0), (282, .sipush 12288), (285, .newarray .int), (287, .putfield 112)], [(290, .aload_n 0), (291, .bipush 16), (293, .newarray .long), (295, .putfield 115), (298, .aload_n 0), (299, .bipush 8), (301, .newarray .int), (303, .putfield 118)], [(306, .aload_n 0), (307, .sipush 192), (310, .newarray .int), (312, .putfield 121), (315, .aload_n 0), (316, .sipush 192), (319, .newarray .int)], [(321, .putfield 124), (324, .aload_n 0), (325, .sipush 192), (328, .newarray .int), (330, .putfield 127), (333, .aload_n 0), (334, .sipush 192)], [(337, .newarray .long), (339, .putfield 130), (342, .aload_n 0), (343, .sipush 192), (346, .newarray .long), (348, .putfield 133), (351, .aload_n 0)], [(352, .sipush 192), (355, .newarray .int), (357, .putfield 136), (360, .aload_n 0), (361, .sipush 1536), (364, .newarray .long), (366, .putfield 139)], [(369, .aload_n 0), (370, .sipush 192), (373, .newarray .int), (375, .putfield 142), (378, .aload_n 0), (379, .sipush 192), (382, .newarray .int)]]
theorem uX8_init_2 : ∀ r ∈ tX8_init_2, xchk1 cX8_init r = true := fun r hr => List.all_eq_true.mp (by decide +kernel : (tX8_init_2.all (fun r => xchk1 cX8_init r)) = true) r hr
def tX8_init_3 : List (List (Nat × Instr)) := [[(384, .putfield 145), (387, .aload_n 0), (388, .sipush 192), (391, .newarray .int), (393, .putfield 148), (396, .aload_n 0), (397, .sipush 192)], [(400, .newarray .int), (402, .putfield 151), (405, .aload_n 0), (406, .sipush 12288), (409, .newarray .int), (411, .putfield 154), (414, .aload_n 0), (415, .sipush 12288)], [(418, .newarray .long), (420, .putfield 157), (423, .aload_n 0), (424, .sipush 12288), (427, .newarray .int), (429, .putfield 160)], [(432, .aload_n 0), (433, .iconst 4), (434, .newarray .boolean), (436, .putfield 163), (439, .aload_n 0), (440, .iconst 4), (441, .newarray .int), (443, .putfield 166), (446, .aload_n 0), (447, .iconst 4)], [(448, .newarray .int), (450, .putfield 169), (453, .aload_n 0), (454, .sipush 160), (457, .newarray .long), (459, .putfield 172), (462, .return_)]]
theorem uX8_init_3 : ∀ r ∈ tX8_init_3, xchk1 cX8_init r = true := fun r hr => List.all_eq_true.mp (by decide +kernel : (tX8_init_3.all (fun r => xchk1 cX8_init r)) = true) r hr
def tX8_init : List (List (Nat × Instr)) := tX8_init_0 ++ (tX8_init_1 ++ (tX8_init_2 ++ (tX8_init_3)))
theorem uX8_init : ∀ r ∈ tX8_init, xchk1 cX8_init r = true := xap uX8_init_0 (xap uX8_init_1 (xap uX8_init_2 (uX8_init_3)))
def tX8_is_0 : List (List (Nat × Instr)) := [[(0, .iload_n 1), (1, .invokestatic 266), (4, .ifCond .eq 15), (7, .iload_n 2), (8, .i2l), (9, .lconst 0), (10, .ldc2_w 373), (13, .invokestatic 177)], [(16, .ifCond .ne 6), (19, .bipush (-2)), (21, .ireturn), (22, .aload_n 0), (23, .getfield 13), (26, .iload_n 1), (27, .iaload), (28, .ifCond .ne 6), (31, .bipush (-3))], [(33, .ireturn), (34, .aload_n 0), (35, .aload_n 0), (36, .getfield 39), (39, .invokevirtual 375), (42, .aload_n 0), (43, .iload_n 1), (44, .iload_n 2), (45, .invokevirtual 381)], [(48, .istore_n 3), (49, .aload_n 0), (50, .aload_n 0), (51, .getfield 326), (54, .putfield 378), (57, .iload_n 3), (58, .ireturn)]]
theorem uX8_is_0 : ∀ r ∈ tX8_is_0, xchk1 cX8_is r = true := fun r hr => List.all_eq_true.mp (by decide +kernel : (tX8_is_0.all (fun r => xchk1 cX8_is r)) = true) r hr
def tX8_is : List (List (Nat × Instr)) := tX8_is_0
theorem uX8_is : ∀ r ∈ tX8_is, xchk1 cX8_is r = true := uX8_is_0
def tX8_isFull_0 : List (List (Nat × Instr)) := [[(0, .iload_n 1), (1, .invokestatic 266), (4, .ifCond .eq 16), (7, .aload_n 0), (8, .getfield 13), (11, .iload_n 1), (12, .iaload), (13, .ifCond .le 7)], [(16, .iconst 1), (17, .goto 4), (20, .iconst 0), (21, .ireturn)]]
theorem uX8_isFull_0 : ∀ r ∈ tX8_isFull_0, xchk1 cX8_isFull r = true := fun r hr => List.all_eq_true.mp (by decide +kernel : (tX8_isFull_0.all (fun r => xchk1 cX8_isFull r)) = true) r hr
def tX8_isFull : List (List (Nat × Instr)) := tX8_isFull_0
theorem uX8_isFull : ∀ r ∈ tX8_isFull, xchk1 cX8_isFull r = true := uX8_isFull_0
def tX8_isLetter_0 : List (List (Nat × Instr)) := [[(0, .aload_n 0), (1, .getfield 193), (4, .iload_n 1), (5, .iadd), (6, .aload_n 0), (7, .getfield 186), (10, .if_icmp .ge 25), (13, .aload_n 0), (14, .aload_n 0), (15, .getfield 193)], [(18, .iload_n 1), (19, .iadd), (20, .invokevirtual 189), (23, .iload_n 2), (24, .if_icmp .ne 7), (27, .iconst 1), (28, .goto 16), (31, .iconst 0)], [(32, .goto 12), (35, .iload_n 2), (36, .ifCond .ne 7), (39, .iconst 1), (40, .goto 4), (43, .iconst 0), (44, .ireturn)]]
theorem uX8_isLetter_0 : ∀ r ∈ tX8_isLetter_0, xchk1 cX8_isLetter r = true := fun r hr => List.all_eq_true.mp (by decide +kernel : (tX8_isLetter_0.all (fun r => xchk1 cX8_isLetter r)) = true) r hr
def tX8_isLetter : List (List (Nat × Instr)) := tX8_isLetter_0
theorem uX8_isLetter : ∀ r ∈ tX8_isLetter, xchk1 cX8_isLetter r = true := uX8_isLetter_0
def tX8_isNumbered_0 : List (List (Nat × Instr)) := [[(0, .iload_n 0), (1, .iconst 1), (2, .if_icmp .eq 41), (5, .iload_n 0), (6, .i2l), (7, .ldc2_w 272), (10, .ldc2_w 274), (13, .invokestatic 177)], [(16, .ifCond .ne 27), (19, .iload_n 0), (20, .bipush 8), (22, .if_icmp .eq 21), (25, .iload_n 0), (26, .bipush 9), (28, .if_icmp .eq 15), (31, .iload_n 0)], [(32, .bipush 12), (34, .if_icmp .eq 9), (37, .iload_n 0), (38, .bipush 13), (40, .if_icmp .ne 7), (43, .iconst 1), (44, .goto 4), (47, .iconst 0)], [(48, .ireturn)]]
theorem uX8_isNumbered_0 : ∀ r ∈ tX8_isNumbered_0, xchk1 cX8_isNumbered r = true := fun r hr => List.all_eq_true.mp (by decide +kernel : (tX8_isNumbered_0.all (fun r => xchk1 cX8_isNumbered r)) = true) r hr
def tX8_isNumbered : List (List (Nat × Instr)) := tX8_isNumbered_0
theorem uX8_isNumbered : ∀ r ∈ tX8_isNumbered, xchk1 cX8_isNumbered r = true := uX8_isNumbered_0
def tX8_isPart_0 : List (List (Nat × Instr)) := [[(0, .iload_n 2), (1, .i2l), (2, .lconst 0), (3, .aload_n 0), (4, .getfield 13), (7, .iload_n 1), (8, .iaload), (9, .iconst 1), (10, .isub), (11, .i2l), (12, .invokestatic 177), (15, .ireturn)]]
theorem uX8_isPart_0 : ∀ r ∈ tX8_isPart_0, xchk1 cX8_isPart r = true := fun r hr => List.all_eq_true.mp (by decide +kernel : (tX8_isPart_0.all (fun r => xchk1 cX8_isPart r)) = true) r hr
def tX8_isPart : List (List (Nat × Instr)) := tX8_isPart_0
theorem uX8_isPart : ∀ r ∈ tX8_isPart, xchk1 cX8_isPart r = true := uX8_isPart_0
def tX8_isSheet_0 : List (List (Nat × Instr)) := [[(0, .iload_n 0), (1, .i2l), (2, .lconst 0), (3, .ldc2_w 272), (6, .invokestatic 177), (9, .ireturn)]]
theorem uX8_isSheet_0 : ∀ r ∈ tX8_isSheet_0, xchk1 cX8_isSheet r = true := fun r hr => List.all_eq_true.mp (by decide +kernel : (tX8_isSheet_0.all (fun r => xchk1 cX8_isSheet r)) = true) r hr
def tX8_isSheet : List (List (Nat × Instr)) := tX8_isSheet_0
theorem uX8_isSheet : ∀ r ∈ tX8_isSheet, xchk1 cX8_isSheet r = true := uX8_isSheet_0
def tX8_isSign_0 : List (List (Nat × Instr)) := [[(0, .aload_n 0), (1, .getfield 218), (4, .ifCond .ne 23), (7, .aload_n 0), (8, .getfield 196), (11, .iconst 3), (12, .if_icmp .ne 15), (15, .aload_n 0)], [(16, .getfield 211), (19, .iload_n 1), (20, .if_icmp .ne 7), (23, .iconst 1), (24, .goto 4), (27, .iconst 0), (28, .ireturn)]]
theorem uX8_isSign_0 : ∀ r ∈ tX8_isSign_0, xchk1 cX8_isSign r = true := fun r hr => List.all_eq_true.mp (by decide +kernel : (tX8_isSign_0.all (fun r => xchk1 cX8_isSign r)) = true) r hr
def tX8_isSign : List (List (Nat × Instr)) := tX8_isSign_0
theorem uX8_isSign : ∀ r ∈ tX8_isSign, xchk1 cX8_isSign r = true := uX8_isSign_0
def tX8_isSignByte_0 : List (List (Nat × Instr)) := [[(0, .iload_n 0), (1, .bipush 43), (3, .if_icmp .eq 51), (6, .iload_n 0), (7, .bipush 45), (9, .if_icmp .eq 45), (12, .iload_n 0), (13, .bipush 42), (15, .if_icmp .eq 39)], [(18, .iload_n 0), (19, .bipush 47), (21, .if_icmp .eq 33), (24, .iload_n 0), (25, .bipush 37), (27, .if_icmp .eq 27), (30, .iload_n 0), (31, .bipush 60)], [(33, .if_icmp .eq 21), (36, .iload_n 0), (37, .bipush 62), (39, .if_icmp .eq 15), (42, .iload_n 0), (43, .bipush 61), (45, .if_icmp .eq 9)], [(48, .iload_n 0), (49, .bipush 44), (51, .if_icmp .ne 7), (54, .iconst 1), (55, .goto 4), (58, .iconst 0), (59, .ireturn)]]
theorem uX8_isSignByte_0 : ∀ r ∈ tX8_isSignByte_0, xchk1 cX8_isSignByte r = true := fun r hr => List.all_eq_true.mp (by decide +kernel : (tX8_isSignByte_0.all (fun r => xchk1 cX8_isSignByte r)) = true) r hr
def tX8_isSignByte : List (List (Nat × Instr)) := tX8_isSignByte_0
theorem uX8_isSignByte : ∀ r ∈ tX8_isSignByte, xchk1 cX8_isSignByte r = true := uX8_isSignByte_0
def tX8_isSo_0 : List (List (Nat × Instr)) := [[(0, .aload_n 0), (1, .invokevirtual 397), (4, .iload_n 3), (5, .ifCond .eq 7), (8, .aload_n 0), (9, .invokevirtual 269), (12, .aload_n 0), (13, .aload_n 0), (14, .getfield 39)], [(17, .invokevirtual 375), (20, .iconst 1), (21, .istore 4), (23, .iconst 0), (24, .istore 5), (26, .iload 5), (28, .aload_n 0), (29, .getfield 169)], [(32, .iload_n 1), (33, .iaload), (34, .if_icmp .ge 52), (37, .iload 4), (39, .ifCond .eq 47), (42, .aload_n 0), (43, .iload_n 2), (44, .iload 5), (46, .invokevirtual 381)], [(49, .iconst 1), (50, .if_icmp .ne 27), (53, .aload_n 0), (54, .getfield 351), (57, .aload_n 0), (58, .getfield 172), (61, .bipush 40), (63, .iload_n 1)], [(64, .imul), (65, .iload 5), (67, .iadd), (68, .laload), (69, .lcmp), (70, .ifCond .ne 7), (73, .iconst 1), (74, .goto 4), (77, .iconst 0), (78, .istore 4)], [(80, .iinc 5 1), (83, .goto (-57)), (86, .aload_n 0), (87, .invokevirtual 400), (90, .iload 4), (92, .ireturn)]]
theorem uX8_isSo_0 : ∀ r ∈ tX8_isSo_0, xchk1 cX8_isSo r = true := fun r hr => List.all_eq_true.mp (by decide +kernel : (tX8_isSo_0.all (fun r => xchk1 cX8_isSo r)) = true) r hr
def tX8_isSo : List (List (Nat × Instr)) := tX8_isSo_0
theorem uX8_isSo : ∀ r ∈ tX8_isSo, xchk1 cX8_isSo r = true := uX8_isSo_0
def tX8_isStream_0 : List (List (Nat × Instr)) := [[(0, .iload_n 0), (1, .i2l), (2, .lconst 0), (3, .ldc2_w 175), (6, .invokestatic 177), (9, .ireturn)]]
theorem uX8_isStream_0 : ∀ r ∈ tX8_isStream_0, xchk1 cX8_isStream r = true := fun r hr => List.all_eq_true.mp (by decide +kernel : (tX8_isStream_0.all (fun r => xchk1 cX8_isStream r)) = true) r hr
def tX8_isStream : List (List (Nat × Instr)) := tX8_isStream_0
theorem uX8_isStream : ∀ r ∈ tX8_isStream, xchk1 cX8_isStream r = true := uX8_isStream_0
def tX8_isWord_0 : List (List (Nat × Instr)) := [[(0, .aload_n 0), (1, .getfield 186), (4, .aload_n 0), (5, .getfield 193), (8, .iconst 5), (9, .iadd), (10, .if_icmp .gt 54), (13, .aload_n 0), (14, .iconst 0), (15, .iload_n 1)], [(16, .invokevirtual 225), (19, .ifCond .eq 45), (22, .aload_n 0), (23, .iconst 1), (24, .iload_n 2), (25, .invokevirtual 225), (28, .ifCond .eq 36), (31, .aload_n 0)], [(32, .iconst 2), (33, .iload_n 3), (34, .invokevirtual 225), (37, .ifCond .eq 27), (40, .aload_n 0), (41, .iconst 3), (42, .iload 4), (44, .invokevirtual 225), (47, .ifCond .eq 17)], [(50, .aload_n 0), (51, .iconst 4), (52, .iload 5), (54, .invokevirtual 225), (57, .ifCond .eq 7), (60, .iconst 1), (61, .goto 4)], [(64, .iconst 0), (65, .ireturn)]]
theorem uX8_isWord_0 : ∀ r ∈ tX8_isWord_0, xchk1 cX8_isWord r = true := fun r hr => List.all_eq_true.mp (by decide +kernel : (tX8_isWord_0.all (fun r => xchk1 cX8_isWord r)) = true) r hr
def tX8_isWord : List (List (Nat × Instr)) := tX8_isWord_0
theorem uX8_isWord : ∀ r ∈ tX8_isWord, xchk1 cX8_isWord r = true := uX8_isWord_0
def tX8_item_0 : List (List (Nat × Instr)) := [[(0, .iload_n 1), (1, .invokestatic 403), (4, .ifCond .eq 44), (7, .aload_n 0), (8, .getfield 163), (11, .iload_n 1), (12, .baload), (13, .ifCond .eq 35)], [(16, .iload_n 2), (17, .i2l), (18, .lconst 0), (19, .aload_n 0), (20, .getfield 169), (23, .iload_n 1), (24, .iaload), (25, .iconst 1), (26, .isub), (27, .i2l), (28, .invokestatic 177), (31, .ifCond .eq 17)], [(34, .aload_n 0), (35, .getfield 172), (38, .bipush 40), (40, .iload_n 1), (41, .imul), (42, .iload_n 2), (43, .iadd), (44, .laload), (45, .goto 6)], [(48, .ldc2_w 285), (51, .lreturn)]]
theorem uX8_item_0 : ∀ r ∈ tX8_item_0, xchk1 cX8_item r = true := fun r hr => List.all_eq_true.mp (by decide +kernel : (tX8_item_0.all (fun r => xchk1 cX8_item r)) = true) r hr
def tX8_item : List (List (Nat × Instr)) := tX8_item_0
theorem uX8_item : ∀ r ∈ tX8_item, xchk1 cX8_item r = true := uX8_item_0
def tX8_joined_0 : List (List (Nat × Instr)) := [[(0, .iload_n 1), (1, .bipush 47), (3, .if_icmp .eq 9), (6, .iload_n 1), (7, .bipush 37), (9, .if_icmp .ne 13), (12, .lload 4), (14, .lconst 0), (15, .lcmp)], [(16, .ifCond .ne 6), (19, .bipush (-22)), (21, .ireturn), (22, .aload_n 0), (23, .iload_n 1), (24, .bipush 43), (26, .if_icmp .ne 10), (29, .lload_n 2), (30, .lload 4)], [(32, .ladd), (33, .goto 46), (36, .iload_n 1), (37, .bipush 45), (39, .if_icmp .ne 10), (42, .lload_n 2), (43, .lload 4), (45, .lsub), (46, .goto 33)], [(49, .iload_n 1), (50, .bipush 42), (52, .if_icmp .ne 10), (55, .lload_n 2), (56, .lload 4), (58, .lmul), (59, .goto 20), (62, .iload_n 1), (63, .bipush 47)], [(65, .if_icmp .ne 10), (68, .lload_n 2), (69, .lload 4), (71, .ldiv), (72, .goto 7), (75, .lload_n 2), (76, .lload 4), (78, .lrem), (79, .putfield 351)], [(82, .iconst 1), (83, .ireturn)]]
theorem uX8_joined_0 : ∀ r ∈ tX8_joined_0, xchk1 cX8_joined r = true := fun r hr => List.all_eq_true.mp (by decide +kernel : (tX8_joined_0.all (fun r => xchk1 cX8_joined r)) = true) r hr
def tX8_joined : List (List (Nat × Instr)) := tX8_joined_0
theorem uX8_joined : ∀ r ∈ tX8_joined, xchk1 cX8_joined r = true := uX8_joined_0
def tX8_keeps_0 : List (List (Nat × Instr)) := [[(0, .iload_n 2), (1, .ifCond .ne 7), (4, .iconst 0), (5, .goto 18), (8, .aload_n 0), (9, .getfield 64), (12, .bipush 64), (14, .iload_n 1), (15, .imul)], [(16, .iload_n 2), (17, .iadd), (18, .iconst 1), (19, .isub), (20, .iaload), (21, .iconst 1), (22, .iadd), (23, .istore_n 3), (24, .aload_n 0), (25, .iload_n 1), (26, .iconst 1), (27, .iadd), (28, .iload_n 3), (29, .invokevirtual 342)], [(32, .istore 4), (34, .iload 4), (36, .iconst 1), (37, .if_icmp .ne 100), (40, .aload_n 0), (41, .iload_n 1), (42, .iconst 1), (43, .iadd), (44, .iload_n 3), (45, .invokevirtual 348)], [(48, .istore 4), (50, .iload 4), (52, .iconst 1), (53, .if_icmp .eq 6), (56, .iload 4), (58, .ireturn), (59, .aload_n 0), (60, .getfield 351), (63, .lstore 5)], [(65, .aload_n 0), (66, .getfield 17), (69, .iload_n 1), (70, .iaload), (71, .iconst 4), (72, .if_icmp .ne 13), (75, .aload_n 0), (76, .iload_n 1), (77, .lload 5), (79, .invokevirtual 355)], [(82, .goto 11), (85, .aload_n 0), (86, .iload_n 1), (87, .iload_n 2), (88, .lload 5), (90, .invokevirtual 359), (93, .istore 7), (95, .iload 7)], [(97, .iconst 1), (98, .if_icmp .ne 15), (101, .aload_n 0), (102, .getfield 64), (105, .bipush 64), (107, .iload_n 1), (108, .imul), (109, .iload_n 2), (110, .iadd), (111, .iload_n 3)], [(112, .iastore), (113, .iload 7), (115, .ifCond .eq 6), (118, .iload 7), (120, .ireturn), (121, .iinc 3 1), (124, .aload_n 0), (125, .iload_n 1), (126, .iconst 1), (127, .iadd)]]
theorem uX8_keeps_0 : ∀ r ∈ tX8_keeps_0, xchk1 cX8_keeps r = true := fun r hr => List.all_eq_true.mp (by decide +kernel : (tX8_keeps_0.all (fun r => xchk1 cX8_keeps r)) = true) r hr
def tX8_keeps_1 : List (List (Nat × Instr)) := [[(128, .iload_n 3), (129, .invokevirtual 342), (132, .istore 4), (134, .goto (-100)), (137, .iload 4), (139, .ireturn)]]
theorem uX8_keeps_1 : ∀ r ∈ tX8_keeps_1, xchk1 cX8_keeps r = true := fun r hr => List.all_eq_true.mp (by decide +kernel : (tX8_keeps_1.all (fun r => xchk1 cX8_keeps r)) = true) r hr
def tX8_keeps : List (List (Nat × Instr)) := tX8_keeps_0 ++ (tX8_keeps_1)
theorem uX8_keeps : ∀ r ∈ tX8_keeps, xchk1 cX8_keeps r = true := xap uX8_keeps_0 (uX8_keeps_1)
def tX8_kindOf_0 : List (List (Nat × Instr)) := [[(0, .aload_n 0), (1, .getfield 186), (4, .aload_n 0), (5, .getfield 193), (8, .iconst 1), (9, .iadd), (10, .if_icmp .ne 26), (13, .aload_n 0), (14, .aload_n 0), (15, .getfield 193)], [(18, .invokevirtual 189), (21, .i2l), (22, .ldc2_w 199), (25, .ldc2_w 229), (28, .invokestatic 177), (31, .ifCond .eq 5)], [(34, .iconst 0), (35, .ireturn), (36, .aload_n 0), (37, .bipush 102), (39, .bipush 114), (41, .bipush 111), (43, .bipush 109), (45, .iconst 0), (46, .invokevirtual 231)], [(49, .ifCond .eq 5), (52, .iconst 1), (53, .ireturn), (54, .aload_n 0), (55, .bipush 108), (57, .bipush 105), (59, .bipush 115), (61, .bipush 116), (63, .iconst 0)], [(64, .invokevirtual 231), (67, .ifCond .eq 5), (70, .iconst 2), (71, .ireturn), (72, .aload_n 0), (73, .bipush 109), (75, .bipush 97), (77, .bipush 112), (79, .iconst 0)], [(80, .iconst 0), (81, .invokevirtual 231), (84, .ifCond .eq 5), (87, .iconst 3), (88, .ireturn), (89, .aload_n 0), (90, .bipush 107), (92, .bipush 101), (94, .bipush 101)], [(96, .bipush 112), (98, .iconst 0), (99, .invokevirtual 231), (102, .ifCond .eq 5), (105, .iconst 4), (106, .ireturn), (107, .aload_n 0), (108, .bipush 119), (110, .bipush 104)], [(112, .bipush 105), (114, .bipush 108), (116, .bipush 101), (118, .invokevirtual 231), (121, .ifCond .eq 5), (124, .iconst 5), (125, .ireturn), (126, .aload_n 0), (127, .bipush 122)]]
theorem uX8_kindOf_0 : ∀ r ∈ tX8_kindOf_0, xchk1 cX8_kindOf r = true := fun r hr => List.all_eq_true.mp (by decide +kernel : (tX8_kindOf_0.all (fun r => xchk1 cX8_kindOf r)) = true) r hr
def tX8_kindOf_1 : List (List (Nat × Instr)) := [[(129, .bipush 105), (131, .bipush 112), (133, .iconst 0), (134, .iconst 0), (135, .invokevirtual 231), (138, .ifCond .eq 6), (141, .bipush 6), (143, .ireturn)], [(144, .aload_n 0), (145, .bipush 109), (147, .bipush 101), (149, .bipush 114), (151, .bipush 103), (153, .bipush 101), (155, .invokevirtual 231), (158, .ifCond .eq 6)], [(161, .bipush 7), (163, .ireturn), (164, .aload_n 0), (165, .bipush 116), (167, .bipush 97), (169, .bipush 107), (171, .bipush 101), (173, .iconst 0), (174, .invokevirtual 231)], [(177, .ifCond .eq 6), (180, .bipush 8), (182, .ireturn), (183, .aload_n 0), (184, .bipush 100), (186, .bipush 114), (188, .bipush 111), (190, .bipush 112)], [(192, .iconst 0), (193, .invokevirtual 231), (196, .ifCond .eq 6), (199, .bipush 9), (201, .ireturn), (202, .aload_n 0), (203, .bipush 115), (205, .bipush 99), (207, .bipush 97)], [(209, .bipush 110), (211, .iconst 0), (212, .invokevirtual 231), (215, .ifCond .eq 6), (218, .bipush 10), (220, .ireturn), (221, .aload_n 0), (222, .bipush 115)], [(224, .bipush 105), (226, .bipush 101), (228, .bipush 118), (230, .bipush 101), (232, .invokevirtual 231), (235, .ifCond .eq 6), (238, .bipush 11)], [(240, .ireturn), (241, .aload_n 0), (242, .bipush 99), (244, .bipush 111), (246, .bipush 110), (248, .bipush 115), (250, .iconst 0), (251, .invokevirtual 231), (254, .ifCond .eq 6)]]
theorem uX8_kindOf_1 : ∀ r ∈ tX8_kindOf_1, xchk1 cX8_kindOf r = true := fun r hr => List.all_eq_true.mp (by decide +kernel : (tX8_kindOf_1.all (fun r => xchk1 cX8_kindOf r)) = true) r hr
def tX8_kindOf_2 : List (List (Nat × Instr)) := [[(257, .bipush 12), (259, .ireturn), (260, .aload_n 0), (261, .bipush 99), (263, .bipush 117), (265, .bipush 116), (267, .iconst 0), (268, .iconst 0), (269, .invokevirtual 231)], [(272, .ifCond .eq 8), (275, .bipush 13), (277, .goto 4), (280, .iconst (-1)), (281, .ireturn)]]
theorem uX8_kindOf_2 : ∀ r ∈ tX8_kindOf_2, xchk1 cX8_kindOf r = true := fun r hr => List.all_eq_true.mp (by decide +kernel : (tX8_kindOf_2.all (fun r => xchk1 cX8_kindOf r)) = true) r hr
def tX8_kindOf : List (List (Nat × Instr)) := tX8_kindOf_0 ++ (tX8_kindOf_1 ++ (tX8_kindOf_2))
theorem uX8_kindOf : ∀ r ∈ tX8_kindOf, xchk1 cX8_kindOf r = true := xap uX8_kindOf_0 (xap uX8_kindOf_1 (uX8_kindOf_2))
def tX8_kindWord_0 : List (List (Nat × Instr)) := [[(0, .aload_n 0), (1, .getfield 17), (4, .iload_n 1), (5, .iaload), (6, .istore_n 2), (7, .iload_n 2), (8, .ifCond .ne 21), (11, .aload_n 0), (12, .bipush 97), (14, .aload_n 0), (15, .getfield 26)], [(18, .iload_n 1), (19, .laload), (20, .l2i), (21, .iadd), (22, .iconst 0), (23, .iconst 0), (24, .iconst 0), (25, .iconst 0), (26, .invokevirtual 309), (29, .iload_n 2), (30, .iconst 1), (31, .if_icmp .ne 16)], [(34, .aload_n 0), (35, .bipush 102), (37, .bipush 114), (39, .bipush 111), (41, .bipush 109), (43, .iconst 0), (44, .invokevirtual 309), (47, .iload_n 2)], [(48, .iconst 2), (49, .if_icmp .ne 16), (52, .aload_n 0), (53, .bipush 108), (55, .bipush 105), (57, .bipush 115), (59, .bipush 116), (61, .iconst 0), (62, .invokevirtual 309)], [(65, .iload_n 2), (66, .iconst 3), (67, .if_icmp .ne 15), (70, .aload_n 0), (71, .bipush 109), (73, .bipush 97), (75, .bipush 112), (77, .iconst 0), (78, .iconst 0), (79, .invokevirtual 309)], [(82, .iload_n 2), (83, .iconst 4), (84, .if_icmp .ne 16), (87, .aload_n 0), (88, .bipush 107), (90, .bipush 101), (92, .bipush 101), (94, .bipush 112)], [(96, .iconst 0), (97, .invokevirtual 309), (100, .iload_n 2), (101, .iconst 5), (102, .if_icmp .ne 17), (105, .aload_n 0), (106, .bipush 119), (108, .bipush 104), (110, .bipush 105)], [(112, .bipush 108), (114, .bipush 101), (116, .invokevirtual 309), (119, .iload_n 2), (120, .bipush 6), (122, .if_icmp .ne 15), (125, .aload_n 0), (126, .bipush 122)]]
theorem uX8_kindWord_0 : ∀ r ∈ tX8_kindWord_0, xchk1 cX8_kindWord r = true := fun r hr => List.all_eq_true.mp (by decide +kernel : (tX8_kindWord_0.all (fun r => xchk1 cX8_kindWord r)) = true) r hr
def tX8_kindWord_1 : List (List (Nat × Instr)) := [[(128, .bipush 105), (130, .bipush 112), (132, .iconst 0), (133, .iconst 0), (134, .invokevirtual 309), (137, .iload_n 2), (138, .bipush 7), (140, .if_icmp .ne 17), (143, .aload_n 0)], [(144, .bipush 109), (146, .bipush 101), (148, .bipush 114), (150, .bipush 103), (152, .bipush 101), (154, .invokevirtual 309), (157, .iload_n 2), (158, .bipush 8)], [(160, .if_icmp .ne 16), (163, .aload_n 0), (164, .bipush 116), (166, .bipush 97), (168, .bipush 107), (170, .bipush 101), (172, .iconst 0), (173, .invokevirtual 309)], [(176, .iload_n 2), (177, .bipush 9), (179, .if_icmp .ne 16), (182, .aload_n 0), (183, .bipush 100), (185, .bipush 114), (187, .bipush 111), (189, .bipush 112), (191, .iconst 0)], [(192, .invokevirtual 309), (195, .iload_n 2), (196, .bipush 10), (198, .if_icmp .ne 16), (201, .aload_n 0), (202, .bipush 115), (204, .bipush 99), (206, .bipush 97)], [(208, .bipush 110), (210, .iconst 0), (211, .invokevirtual 309), (214, .iload_n 2), (215, .bipush 11), (217, .if_icmp .ne 17), (220, .aload_n 0), (221, .bipush 115), (223, .bipush 105)], [(225, .bipush 101), (227, .bipush 118), (229, .bipush 101), (231, .invokevirtual 309), (234, .iload_n 2), (235, .bipush 12), (237, .if_icmp .ne 16)], [(240, .aload_n 0), (241, .bipush 99), (243, .bipush 111), (245, .bipush 110), (247, .bipush 115), (249, .iconst 0), (250, .invokevirtual 309), (253, .iload_n 2), (254, .bipush 13)]]
theorem uX8_kindWord_1 : ∀ r ∈ tX8_kindWord_1, xchk1 cX8_kindWord r = true := fun r hr => List.all_eq_true.mp (by decide +kernel : (tX8_kindWord_1.all (fun r => xchk1 cX8_kindWord r)) = true) r hr
def tX8_kindWord_2 : List (List (Nat × Instr)) := [[(256, .if_icmp .ne 15), (259, .aload_n 0), (260, .bipush 99), (262, .bipush 117), (264, .bipush 116), (266, .iconst 0), (267, .iconst 0), (268, .invokevirtual 309), (271, .return_)]]
theorem uX8_kindWord_2 : ∀ r ∈ tX8_kindWord_2, xchk1 cX8_kindWord r = true := fun r hr => List.all_eq_true.mp (by decide +kernel : (tX8_kindWord_2.all (fun r => xchk1 cX8_kindWord r)) = true) r hr
def tX8_kindWord : List (List (Nat × Instr)) := tX8_kindWord_0 ++ (tX8_kindWord_1 ++ (tX8_kindWord_2))
theorem uX8_kindWord : ∀ r ∈ tX8_kindWord, xchk1 cX8_kindWord r = true := xap uX8_kindWord_0 (xap uX8_kindWord_1 (uX8_kindWord_2))
def tX8_lay_0 : List (List (Nat × Instr)) := [[(0, .iload_n 1), (1, .invokestatic 403), (4, .ifCond .eq 35), (7, .iload_n 2), (8, .invokestatic 266), (11, .ifCond .eq 28), (14, .iload_n 3), (15, .i2l)], [(16, .lconst 0), (17, .ldc2_w 293), (20, .invokestatic 177), (23, .ifCond .eq 16), (26, .iload 5), (28, .i2l), (29, .lconst 1), (30, .ldc2_w 429)], [(33, .invokestatic 177), (36, .ifCond .ne 6), (39, .bipush (-2)), (41, .ireturn), (42, .aload_n 0), (43, .getfield 163), (46, .iload_n 1), (47, .baload)], [(48, .ifCond .eq 16), (51, .aload_n 0), (52, .getfield 166), (55, .iload_n 1), (56, .iaload), (57, .iload_n 3), (58, .if_icmp .eq 6), (61, .bipush (-13)), (63, .ireturn)], [(64, .aload_n 0), (65, .getfield 163), (68, .iload_n 1), (69, .baload), (70, .ifCond .ne 6), (73, .bipush (-11)), (75, .ireturn), (76, .iload 4), (78, .ifCond .lt 17)], [(81, .iload 4), (83, .aload_n 0), (84, .getfield 169), (87, .iload_n 1), (88, .iaload), (89, .iload 5), (91, .isub), (92, .if_icmp .le 6), (95, .bipush (-12))], [(97, .ireturn), (98, .bipush 24), (100, .iload_n 2), (101, .imul), (102, .istore 6), (104, .aload_n 0), (105, .getfield 13), (108, .iload_n 2), (109, .iconst 1), (110, .iastore), (111, .aload_n 0)], [(112, .getfield 17), (115, .iload 6), (117, .iconst 2), (118, .iastore), (119, .aload_n 0), (120, .getfield 20), (123, .iload 6), (125, .iconst 0), (126, .iastore), (127, .aload_n 0)]]
theorem uX8_lay_0 : ∀ r ∈ tX8_lay_0, xchk1 cX8_lay r = true := fun r hr => List.all_eq_true.mp (by decide +kernel : (tX8_lay_0.all (fun r => xchk1 cX8_lay r)) = true) r hr
def tX8_lay_1 : List (List (Nat × Instr)) := [[(128, .getfield 23), (131, .iload 6), (133, .iconst 1), (134, .iastore), (135, .aload_n 0), (136, .getfield 33), (139, .iload 6), (141, .iload 5), (143, .iastore)], [(144, .iconst 0), (145, .istore 7), (147, .iload 7), (149, .iload 5), (151, .if_icmp .ge 37), (154, .aload_n 0), (155, .getfield 36), (158, .bipush 8)], [(160, .iload 6), (162, .imul), (163, .iload 7), (165, .iadd), (166, .aload_n 0), (167, .getfield 172), (170, .bipush 40), (172, .iload_n 1), (173, .imul), (174, .iload 4)], [(176, .iadd), (177, .iload 7), (179, .iadd), (180, .laload), (181, .lastore), (182, .iinc 7 1), (185, .goto (-38)), (188, .aload_n 0), (189, .invokevirtual 269)], [(192, .iload 5), (194, .ireturn)]]
theorem uX8_lay_1 : ∀ r ∈ tX8_lay_1, xchk1 cX8_lay r = true := fun r hr => List.all_eq_true.mp (by decide +kernel : (tX8_lay_1.all (fun r => xchk1 cX8_lay r)) = true) r hr
def tX8_lay : List (List (Nat × Instr)) := tX8_lay_0 ++ (tX8_lay_1)
theorem uX8_lay : ∀ r ∈ tX8_lay, xchk1 cX8_lay r = true := xap uX8_lay_0 (uX8_lay_1)
def tX8_laysAside_0 : List (List (Nat × Instr)) := [[(0, .iconst 0), (1, .istore_n 1), (2, .iload_n 1), (3, .sipush 192), (6, .if_icmp .ge 57), (9, .aload_n 0), (10, .getfield 94), (13, .iload_n 1), (14, .aload_n 0), (15, .getfield 42)], [(18, .iload_n 1), (19, .iaload), (20, .iastore), (21, .aload_n 0), (22, .getfield 97), (25, .iload_n 1), (26, .aload_n 0), (27, .getfield 45), (30, .iload_n 1), (31, .iaload)], [(32, .iastore), (33, .aload_n 0), (34, .getfield 100), (37, .iload_n 1), (38, .aload_n 0), (39, .getfield 52), (42, .iload_n 1), (43, .iaload), (44, .iastore), (45, .aload_n 0), (46, .getfield 103)], [(49, .iload_n 1), (50, .aload_n 0), (51, .getfield 55), (54, .iload_n 1), (55, .iaload), (56, .iastore), (57, .iinc 1 1), (60, .goto (-58)), (63, .iconst 0)], [(64, .istore_n 1), (65, .iload_n 1), (66, .sipush 12288), (69, .if_icmp .ge 45), (72, .aload_n 0), (73, .getfield 106), (76, .iload_n 1), (77, .aload_n 0), (78, .getfield 58)], [(81, .iload_n 1), (82, .iaload), (83, .iastore), (84, .aload_n 0), (85, .getfield 109), (88, .iload_n 1), (89, .aload_n 0), (90, .getfield 61), (93, .iload_n 1), (94, .laload), (95, .lastore)], [(96, .aload_n 0), (97, .getfield 112), (100, .iload_n 1), (101, .aload_n 0), (102, .getfield 64), (105, .iload_n 1), (106, .iaload), (107, .iastore), (108, .iinc 1 1), (111, .goto (-46))], [(114, .return_)]]
theorem uX8_laysAside_0 : ∀ r ∈ tX8_laysAside_0, xchk1 cX8_laysAside r = true := fun r hr => List.all_eq_true.mp (by decide +kernel : (tX8_laysAside_0.all (fun r => xchk1 cX8_laysAside r)) = true) r hr
def tX8_laysAside : List (List (Nat × Instr)) := tX8_laysAside_0
theorem uX8_laysAside : ∀ r ∈ tX8_laysAside, xchk1 cX8_laysAside r = true := uX8_laysAside_0
def tX8_laysBack_0 : List (List (Nat × Instr)) := [[(0, .iconst 0), (1, .istore_n 1), (2, .iload_n 1), (3, .sipush 192), (6, .if_icmp .ge 57), (9, .aload_n 0), (10, .getfield 42), (13, .iload_n 1), (14, .aload_n 0), (15, .getfield 94)], [(18, .iload_n 1), (19, .iaload), (20, .iastore), (21, .aload_n 0), (22, .getfield 45), (25, .iload_n 1), (26, .aload_n 0), (27, .getfield 97), (30, .iload_n 1), (31, .iaload)], [(32, .iastore), (33, .aload_n 0), (34, .getfield 52), (37, .iload_n 1), (38, .aload_n 0), (39, .getfield 100), (42, .iload_n 1), (43, .iaload), (44, .iastore), (45, .aload_n 0), (46, .getfield 55)], [(49, .iload_n 1), (50, .aload_n 0), (51, .getfield 103), (54, .iload_n 1), (55, .iaload), (56, .iastore), (57, .iinc 1 1), (60, .goto (-58)), (63, .iconst 0)], [(64, .istore_n 1), (65, .iload_n 1), (66, .sipush 12288), (69, .if_icmp .ge 45), (72, .aload_n 0), (73, .getfield 58), (76, .iload_n 1), (77, .aload_n 0), (78, .getfield 106)], [(81, .iload_n 1), (82, .iaload), (83, .iastore), (84, .aload_n 0), (85, .getfield 61), (88, .iload_n 1), (89, .aload_n 0), (90, .getfield 109), (93, .iload_n 1), (94, .laload), (95, .lastore)], [(96, .aload_n 0), (97, .getfield 64), (100, .iload_n 1), (101, .aload_n 0), (102, .getfield 112), (105, .iload_n 1), (106, .iaload), (107, .iastore), (108, .iinc 1 1), (111, .goto (-46))], [(114, .return_)]]
theorem uX8_laysBack_0 : ∀ r ∈ tX8_laysBack_0, xchk1 cX8_laysBack r = true := fun r hr => List.all_eq_true.mp (by decide +kernel : (tX8_laysBack_0.all (fun r => xchk1 cX8_laysBack r)) = true) r hr
def tX8_laysBack : List (List (Nat × Instr)) := tX8_laysBack_0
theorem uX8_laysBack : ∀ r ∈ tX8_laysBack, xchk1 cX8_laysBack r = true := uX8_laysBack_0
def tX8_limit_0 : List (List (Nat × Instr)) := [[(0, .iload_n 1), (1, .i2l), (2, .lconst 0), (3, .ldc2_w 387), (6, .invokestatic 177), (9, .ifCond .ne 6), (12, .bipush (-2)), (14, .ireturn), (15, .aload_n 0)], [(16, .getfield 39), (19, .istore_n 2), (20, .aload_n 0), (21, .iload_n 1), (22, .putfield 39), (25, .iload_n 2), (26, .ireturn)]]
theorem uX8_limit_0 : ∀ r ∈ tX8_limit_0, xchk1 cX8_limit r = true := fun r hr => List.all_eq_true.mp (by decide +kernel : (tX8_limit_0.all (fun r => xchk1 cX8_limit r)) = true) r hr
def tX8_limit : List (List (Nat × Instr)) := tX8_limit_0
theorem uX8_limit : ∀ r ∈ tX8_limit, xchk1 cX8_limit r = true := uX8_limit_0
def tX8_list_0 : List (List (Nat × Instr)) := [[(0, .aload_n 0), (1, .getfield 88), (4, .bipush 8), (6, .iload_n 1), (7, .imul), (8, .aload_n 0), (9, .invokevirtual 255), (12, .lastore), (13, .aload_n 0), (14, .getfield 85)], [(17, .iload_n 1), (18, .iconst 1), (19, .iastore), (20, .aload_n 0), (21, .bipush 44), (23, .invokevirtual 235), (26, .ifCond .eq 65), (29, .aload_n 0), (30, .getfield 218)], [(33, .ifCond .ne 58), (36, .aload_n 0), (37, .getfield 85), (40, .iload_n 1), (41, .iaload), (42, .bipush 8), (44, .if_icmp .ne 10), (47, .aload_n 0)], [(48, .invokevirtual 245), (51, .goto (-31)), (54, .aload_n 0), (55, .invokevirtual 238), (58, .aload_n 0), (59, .getfield 88), (62, .bipush 8)], [(64, .iload_n 1), (65, .imul), (66, .aload_n 0), (67, .getfield 85), (70, .iload_n 1), (71, .iaload), (72, .iadd), (73, .aload_n 0), (74, .invokevirtual 255), (77, .lastore), (78, .aload_n 0), (79, .getfield 85)], [(82, .iload_n 1), (83, .dup2), (84, .iaload), (85, .iconst 1), (86, .iadd), (87, .iastore), (88, .goto (-68)), (91, .return_)]]
theorem uX8_list_0 : ∀ r ∈ tX8_list_0, xchk1 cX8_list r = true := fun r hr => List.all_eq_true.mp (by decide +kernel : (tX8_list_0.all (fun r => xchk1 cX8_list r)) = true) r hr
def tX8_list : List (List (Nat × Instr)) := tX8_list_0
theorem uX8_list : ∀ r ∈ tX8_list, xchk1 cX8_list r = true := uX8_list_0
def tX8_merges_0 : List (List (Nat × Instr)) := [[(0, .aload_n 0), (1, .getfield 52), (4, .iload_n 1), (5, .iaload), (6, .istore_n 3), (7, .aload_n 0), (8, .getfield 55), (11, .iload_n 1), (12, .iaload), (13, .istore 4), (15, .aload_n 0)], [(16, .iload_n 1), (17, .invokevirtual 345), (20, .istore 5), (22, .aload_n 0), (23, .iload_n 1), (24, .iconst 1), (25, .iadd), (26, .iload_n 3), (27, .invokevirtual 342), (30, .istore 6)], [(32, .iload 6), (34, .ifCond .ge 6), (37, .iload 6), (39, .ireturn), (40, .aload_n 0), (41, .iload 5), (43, .iload 4), (45, .invokevirtual 342)], [(48, .istore 7), (50, .iload 7), (52, .ifCond .ge 6), (55, .iload 7), (57, .ireturn), (58, .iload 6), (60, .ifCond .ne 10), (63, .iload 7)], [(65, .ifCond .ne 5), (68, .iconst 0), (69, .ireturn), (70, .iload 7), (72, .ifCond .ne 7), (75, .iconst 0), (76, .goto 13), (79, .iload 6)], [(81, .ifCond .ne 7), (84, .iconst 1), (85, .goto 4), (88, .iconst 2), (89, .istore 8), (91, .iload 8), (93, .iconst 2), (94, .if_icmp .ne 78)], [(97, .aload_n 0), (98, .iload_n 1), (99, .iconst 1), (100, .iadd), (101, .iload_n 3), (102, .invokevirtual 348), (105, .istore 9), (107, .iload 9), (109, .iconst 1), (110, .if_icmp .eq 6)], [(113, .iload 9), (115, .ireturn), (116, .aload_n 0), (117, .getfield 351), (120, .lstore 10), (122, .aload_n 0), (123, .iload 5), (125, .iload 4), (127, .invokevirtual 348)]]
theorem uX8_merges_0 : ∀ r ∈ tX8_merges_0, xchk1 cX8_merges r = true := fun r hr => List.all_eq_true.mp (by decide +kernel : (tX8_merges_0.all (fun r => xchk1 cX8_merges r)) = true) r hr
def tX8_merges_1 : List (List (Nat × Instr)) := [[(130, .istore 9), (132, .iload 9), (134, .iconst 1), (135, .if_icmp .eq 6), (138, .iload 9), (140, .ireturn), (141, .lload 10), (143, .aload_n 0)], [(144, .getfield 351), (147, .lcmp), (148, .ifCond .ge 7), (151, .iconst 0), (152, .goto 18), (155, .lload 10), (157, .aload_n 0), (158, .getfield 351)], [(161, .lcmp), (162, .ifCond .le 7), (165, .iconst 1), (166, .goto 4), (169, .iconst 2), (170, .istore 8), (172, .aload_n 0), (173, .getfield 64)], [(176, .bipush 64), (178, .iload_n 1), (179, .imul), (180, .iload_n 2), (181, .iadd), (182, .iload 8), (184, .iconst 1), (185, .if_icmp .ne 12), (188, .iconst 2), (189, .iload 4), (191, .imul)], [(192, .iconst 1), (193, .iadd), (194, .goto 6), (197, .iconst 2), (198, .iload_n 3), (199, .imul), (200, .iastore), (201, .aload_n 0), (202, .getfield 52), (205, .iload_n 1), (206, .iload 8)], [(208, .iconst 1), (209, .if_icmp .ne 7), (212, .iload_n 3), (213, .goto 6), (216, .iload_n 3), (217, .iconst 1), (218, .iadd), (219, .iastore), (220, .aload_n 0), (221, .getfield 55)], [(224, .iload_n 1), (225, .iload 8), (227, .ifCond .ne 8), (230, .iload 4), (232, .goto 7), (235, .iload 4), (237, .iconst 1), (238, .iadd), (239, .iastore)], [(240, .iconst 1), (241, .ireturn)]]
theorem uX8_merges_1 : ∀ r ∈ tX8_merges_1, xchk1 cX8_merges r = true := fun r hr => List.all_eq_true.mp (by decide +kernel : (tX8_merges_1.all (fun r => xchk1 cX8_merges r)) = true) r hr
def tX8_merges : List (List (Nat × Instr)) := tX8_merges_0 ++ (tX8_merges_1)
theorem uX8_merges : ∀ r ∈ tX8_merges, xchk1 cX8_merges r = true := xap uX8_merges_0 (uX8_merges_1)
def tX8_need_0 : List (List (Nat × Instr)) := [[(0, .iload_n 1), (1, .invokestatic 266), (4, .ifCond .eq 15), (7, .iload_n 2), (8, .i2l), (9, .lconst 0), (10, .ldc2_w 373), (13, .invokestatic 177)], [(16, .ifCond .ne 6), (19, .bipush (-2)), (21, .ireturn), (22, .aload_n 0), (23, .getfield 13), (26, .iload_n 1), (27, .iaload), (28, .ifCond .ne 6), (31, .bipush (-3))], [(33, .ireturn), (34, .aload_n 0), (35, .invokevirtual 397), (38, .aload_n 0), (39, .bipush 99), (41, .invokevirtual 375), (44, .aload_n 0), (45, .iload_n 1), (46, .iload_n 2), (47, .invokevirtual 381)], [(50, .istore_n 3), (51, .aload_n 0), (52, .invokevirtual 400), (55, .iload_n 3), (56, .bipush (-6)), (58, .if_icmp .ne 8), (61, .bipush (-6)), (63, .goto 7)], [(66, .aload_n 0), (67, .getfield 326), (70, .ireturn)]]
theorem uX8_need_0 : ∀ r ∈ tX8_need_0, xchk1 cX8_need r = true := fun r hr => List.all_eq_true.mp (by decide +kernel : (tX8_need_0.all (fun r => xchk1 cX8_need r)) = true) r hr
def tX8_need : List (List (Nat × Instr)) := tX8_need_0
theorem uX8_need : ∀ r ∈ tX8_need, xchk1 cX8_need r = true := uX8_need_0
def tX8_next_0 : List (List (Nat × Instr)) := [[(0, .aload_n 0), (1, .aload_n 0), (2, .getfield 186), (5, .invokevirtual 189), (8, .bipush 32), (10, .if_icmp .eq 16), (13, .aload_n 0), (14, .aload_n 0), (15, .getfield 186)], [(18, .invokevirtual 189), (21, .bipush 10), (23, .if_icmp .ne 16), (26, .aload_n 0), (27, .dup), (28, .getfield 186), (31, .iconst 1)], [(32, .iadd), (33, .putfield 186), (36, .goto (-36)), (39, .aload_n 0), (40, .aload_n 0), (41, .getfield 186), (44, .putfield 193), (47, .aload_n 0)], [(48, .aload_n 0), (49, .getfield 186), (52, .invokevirtual 189), (55, .istore_n 1), (56, .aload_n 0), (57, .iconst 4), (58, .putfield 196), (61, .iload_n 1), (62, .ifCond .ge 19)], [(65, .aload_n 0), (66, .iconst 0), (67, .putfield 196), (70, .aload_n 0), (71, .aload_n 0), (72, .getfield 183), (75, .putfield 193), (78, .goto 208)], [(81, .iload_n 1), (82, .i2l), (83, .ldc2_w 199), (86, .ldc2_w 201), (89, .invokestatic 177), (92, .ifCond .eq 57), (95, .aload_n 0)], [(96, .aload_n 0), (97, .getfield 186), (100, .invokevirtual 189), (103, .i2l), (104, .ldc2_w 199), (107, .ldc2_w 201), (110, .invokestatic 177)], [(113, .ifCond .eq 16), (116, .aload_n 0), (117, .dup), (118, .getfield 186), (121, .iconst 1), (122, .iadd), (123, .putfield 186), (126, .goto (-31))]]
theorem uX8_next_0 : ∀ r ∈ tX8_next_0, xchk1 cX8_next r = true := fun r hr => List.all_eq_true.mp (by decide +kernel : (tX8_next_0.all (fun r => xchk1 cX8_next r)) = true) r hr
def tX8_next_1 : List (List (Nat × Instr)) := [[(129, .aload_n 0), (130, .aload_n 0), (131, .invokevirtual 203), (134, .iconst (-1)), (135, .if_icmp .ne 7), (138, .iconst 4), (139, .goto 4), (142, .iconst 1), (143, .putfield 196)], [(146, .goto 140), (149, .iload_n 1), (150, .i2l), (151, .ldc2_w 207), (154, .ldc2_w 209), (157, .invokestatic 177)], [(160, .ifCond .eq 99), (163, .iconst 0), (164, .istore_n 2), (165, .aload_n 0), (166, .iconst 0), (167, .putfield 211), (170, .aload_n 0), (171, .aload_n 0), (172, .getfield 186), (175, .invokevirtual 189)], [(178, .i2l), (179, .ldc2_w 207), (182, .ldc2_w 209), (185, .invokestatic 177), (188, .ifCond .eq 54), (191, .aload_n 0)], [(192, .iload_n 2), (193, .iconst 4), (194, .if_icmp .ge 25), (197, .bipush 10), (199, .aload_n 0), (200, .getfield 211), (203, .imul), (204, .aload_n 0), (205, .aload_n 0), (206, .getfield 186)], [(209, .invokevirtual 189), (212, .iadd), (213, .bipush 48), (215, .isub), (216, .goto 7), (219, .aload_n 0), (220, .getfield 211), (223, .putfield 211)], [(226, .iinc 2 1), (229, .aload_n 0), (230, .dup), (231, .getfield 186), (234, .iconst 1), (235, .iadd), (236, .putfield 186), (239, .goto (-69))], [(242, .aload_n 0), (243, .iload_n 2), (244, .iconst 4), (245, .if_icmp .le 7), (248, .iconst 4), (249, .goto 4), (252, .iconst 2), (253, .putfield 196)]]
theorem uX8_next_1 : ∀ r ∈ tX8_next_1, xchk1 cX8_next r = true := fun r hr => List.all_eq_true.mp (by decide +kernel : (tX8_next_1.all (fun r => xchk1 cX8_next r)) = true) r hr
def tX8_next_2 : List (List (Nat × Instr)) := [[(256, .goto 30), (259, .iload_n 1), (260, .invokestatic 214), (263, .ifCond .eq 23), (266, .aload_n 0), (267, .iconst 3), (268, .putfield 196), (271, .aload_n 0)], [(272, .iload_n 1), (273, .putfield 211), (276, .aload_n 0), (277, .dup), (278, .getfield 186), (281, .iconst 1), (282, .iadd), (283, .putfield 186), (286, .return_)]]
theorem uX8_next_2 : ∀ r ∈ tX8_next_2, xchk1 cX8_next r = true := fun r hr => List.all_eq_true.mp (by decide +kernel : (tX8_next_2.all (fun r => xchk1 cX8_next r)) = true) r hr
def tX8_next : List (List (Nat × Instr)) := tX8_next_0 ++ (tX8_next_1 ++ (tX8_next_2))
theorem uX8_next : ∀ r ∈ tX8_next, xchk1 cX8_next r = true := xap uX8_next_0 (xap uX8_next_1 (uX8_next_2))
def tX8_num_0 : List (List (Nat × Instr)) := [[(0, .aload_n 0), (1, .bipush 45), (3, .invokevirtual 235), (6, .istore_n 1), (7, .iload_n 1), (8, .ifCond .eq 7), (11, .aload_n 0), (12, .invokevirtual 238), (15, .iload_n 1)], [(16, .ifCond .eq 15), (19, .aload_n 0), (20, .iconst 0), (21, .sipush 9999), (24, .invokevirtual 241), (27, .lneg), (28, .goto 11), (31, .aload_n 0)], [(32, .iconst 0), (33, .sipush 9999), (36, .invokevirtual 241), (39, .lreturn)]]
theorem uX8_num_0 : ∀ r ∈ tX8_num_0, xchk1 cX8_num r = true := fun r hr => List.all_eq_true.mp (by decide +kernel : (tX8_num_0.all (fun r => xchk1 cX8_num r)) = true) r hr
def tX8_num : List (List (Nat × Instr)) := tX8_num_0
theorem uX8_num : ∀ r ∈ tX8_num, xchk1 cX8_num r = true := uX8_num_0
def tX8_number_0 : List (List (Nat × Instr)) := [[(0, .iload_n 1), (1, .invokestatic 266), (4, .ifCond .eq 43), (7, .aload_n 0), (8, .iload_n 1), (9, .iload_n 2), (10, .invokevirtual 276), (13, .ifCond .eq 34)], [(16, .aload_n 0), (17, .getfield 17), (20, .bipush 24), (22, .iload_n 1), (23, .imul), (24, .iload_n 2), (25, .iadd), (26, .iaload), (27, .invokestatic 282), (30, .ifCond .eq 17)], [(33, .aload_n 0), (34, .getfield 26), (37, .bipush 24), (39, .iload_n 1), (40, .imul), (41, .iload_n 2), (42, .iadd), (43, .laload), (44, .goto 6), (47, .ldc2_w 285)], [(50, .lreturn)]]
theorem uX8_number_0 : ∀ r ∈ tX8_number_0, xchk1 cX8_number r = true := fun r hr => List.all_eq_true.mp (by decide +kernel : (tX8_number_0.all (fun r => xchk1 cX8_number r)) = true) r hr
def tX8_number : List (List (Nat × Instr)) := tX8_number_0
theorem uX8_number : ∀ r ∈ tX8_number, xchk1 cX8_number r = true := uX8_number_0
def tX8_op_0 : List (List (Nat × Instr)) := [[(0, .iload_n 1), (1, .ifCond .eq 47), (4, .aload_n 0), (5, .bipush 60), (7, .invokevirtual 235), (10, .ifCond .ne 30), (13, .aload_n 0), (14, .bipush 62)], [(16, .invokevirtual 235), (19, .ifCond .ne 21), (22, .aload_n 0), (23, .bipush 61), (25, .invokevirtual 235), (28, .ifCond .ne 12), (31, .aload_n 0)], [(32, .bipush 37), (34, .invokevirtual 235), (37, .ifCond .eq 7), (40, .iconst 1), (41, .goto 57), (44, .iconst 0), (45, .goto 53)], [(48, .aload_n 0), (49, .bipush 43), (51, .invokevirtual 235), (54, .ifCond .ne 39), (57, .aload_n 0), (58, .bipush 45), (60, .invokevirtual 235), (63, .ifCond .ne 30)], [(66, .aload_n 0), (67, .bipush 42), (69, .invokevirtual 235), (72, .ifCond .ne 21), (75, .aload_n 0), (76, .bipush 47), (78, .invokevirtual 235)], [(81, .ifCond .ne 12), (84, .aload_n 0), (85, .bipush 37), (87, .invokevirtual 235), (90, .ifCond .eq 7), (93, .iconst 1), (94, .goto 4)], [(97, .iconst 0), (98, .istore_n 2), (99, .iload_n 2), (100, .ifCond .ne 7), (103, .aload_n 0), (104, .invokevirtual 245), (107, .aload_n 0), (108, .getfield 211), (111, .istore_n 3)], [(112, .aload_n 0), (113, .getfield 218), (116, .ifCond .ne 7), (119, .aload_n 0), (120, .invokevirtual 238), (123, .iload_n 3), (124, .ireturn)]]
theorem uX8_op_0 : ∀ r ∈ tX8_op_0, xchk1 cX8_op r = true := fun r hr => List.all_eq_true.mp (by decide +kernel : (tX8_op_0.all (fun r => xchk1 cX8_op r)) = true) r hr
def tX8_op : List (List (Nat × Instr)) := tX8_op_0
theorem uX8_op : ∀ r ∈ tX8_op, xchk1 cX8_op r = true := uX8_op_0
def tX8_other_0 : List (List (Nat × Instr)) := [[(0, .iload_n 1), (1, .iconst 1), (2, .iadd), (3, .aload_n 0), (4, .getfield 23), (7, .iload_n 1), (8, .iconst 1), (9, .iadd), (10, .iaload), (11, .iadd), (12, .ireturn)]]
theorem uX8_other_0 : ∀ r ∈ tX8_other_0, xchk1 cX8_other r = true := fun r hr => List.all_eq_true.mp (by decide +kernel : (tX8_other_0.all (fun r => xchk1 cX8_other r)) = true) r hr
def tX8_other : List (List (Nat × Instr)) := tX8_other_0
theorem uX8_other : ∀ r ∈ tX8_other, xchk1 cX8_other r = true := uX8_other_0
def tX8_outcome_0 : List (List (Nat × Instr)) := [[(0, .aload_n 0), (1, .bipush 24), (3, .iload_n 1), (4, .imul), (5, .iload_n 2), (6, .invokevirtual 342), (9, .istore_n 3), (10, .iload_n 3), (11, .iconst 1), (12, .if_icmp .ne 15), (15, .aload_n 0)], [(16, .bipush 24), (18, .iload_n 1), (19, .imul), (20, .iload_n 2), (21, .invokevirtual 348), (24, .goto 4), (27, .iload_n 3), (28, .ireturn)]]
theorem uX8_outcome_0 : ∀ r ∈ tX8_outcome_0, xchk1 cX8_outcome r = true := fun r hr => List.all_eq_true.mp (by decide +kernel : (tX8_outcome_0.all (fun r => xchk1 cX8_outcome r)) = true) r hr
def tX8_outcome : List (List (Nat × Instr)) := tX8_outcome_0
theorem uX8_outcome : ∀ r ∈ tX8_outcome, xchk1 cX8_outcome r = true := uX8_outcome_0
def tX8_part_0 : List (List (Nat × Instr)) := [[(0, .iload_n 1), (1, .invokestatic 266), (4, .ifCond .eq 15), (7, .iload_n 3), (8, .i2l), (9, .lconst 0), (10, .ldc2_w 274), (13, .invokestatic 177)], [(16, .ifCond .ne 6), (19, .bipush (-2)), (21, .ireturn), (22, .aload_n 0), (23, .getfield 13), (26, .iload_n 1), (27, .iaload), (28, .ifCond .ne 6), (31, .bipush (-3))], [(33, .ireturn), (34, .aload_n 0), (35, .iload_n 1), (36, .iload_n 2), (37, .invokevirtual 276), (40, .ifCond .ne 6), (43, .bipush (-12)), (45, .ireturn), (46, .bipush 24)], [(48, .iload_n 1), (49, .imul), (50, .iload_n 2), (51, .iadd), (52, .istore 4), (54, .iload_n 3), (55, .iconst 3), (56, .if_icmp .ge 40), (59, .iload_n 3), (60, .ifCond .ne 13), (63, .aload_n 0)], [(64, .getfield 17), (67, .iload 4), (69, .iaload), (70, .goto 25), (73, .iload_n 3), (74, .iconst 1), (75, .if_icmp .ne 13), (78, .aload_n 0), (79, .getfield 23)], [(82, .iload 4), (84, .iaload), (85, .goto 10), (88, .aload_n 0), (89, .getfield 42), (92, .iload 4), (94, .iaload), (95, .ireturn)], [(96, .iload_n 3), (97, .iconst 3), (98, .if_icmp .ne 12), (101, .aload_n 0), (102, .iload 4), (104, .invokevirtual 279), (107, .goto 69), (110, .iload_n 3), (111, .iconst 5)], [(112, .if_icmp .ne 28), (115, .aload_n 0), (116, .getfield 17), (119, .iload 4), (121, .iaload), (122, .iconst 2), (123, .if_icmp .ne 13), (126, .aload_n 0), (127, .getfield 33)]]
theorem uX8_part_0 : ∀ r ∈ tX8_part_0, xchk1 cX8_part r = true := fun r hr => List.all_eq_true.mp (by decide +kernel : (tX8_part_0.all (fun r => xchk1 cX8_part r)) = true) r hr
def tX8_part_1 : List (List (Nat × Instr)) := [[(130, .iload 4), (132, .iaload), (133, .goto 43), (136, .iconst (-1)), (137, .goto 39), (140, .aload_n 0), (141, .getfield 45)], [(144, .iload 4), (146, .iaload), (147, .ifCond .ne 7), (150, .iconst 1), (151, .goto 25), (154, .aload_n 0), (155, .getfield 45), (158, .iload 4)], [(160, .iaload), (161, .iconst 1), (162, .if_icmp .ne 7), (165, .iconst 0), (166, .goto 10), (169, .aload_n 0), (170, .getfield 45), (173, .iload 4), (175, .iaload)], [(176, .ireturn)]]
theorem uX8_part_1 : ∀ r ∈ tX8_part_1, xchk1 cX8_part r = true := fun r hr => List.all_eq_true.mp (by decide +kernel : (tX8_part_1.all (fun r => xchk1 cX8_part r)) = true) r hr
def tX8_part : List (List (Nat × Instr)) := tX8_part_0 ++ (tX8_part_1)
theorem uX8_part : ∀ r ∈ tX8_part, xchk1 cX8_part r = true := xap uX8_part_0 (uX8_part_1)
def tX8_passes_0 : List (List (Nat × Instr)) := [[(0, .aload_n 0), (1, .getfield 26), (4, .iload_n 1), (5, .laload), (6, .lstore 4), (8, .aload_n 0), (9, .getfield 20), (12, .iload_n 1), (13, .iaload), (14, .bipush 37)], [(16, .if_icmp .ne 30), (19, .lload 4), (21, .lconst 0), (22, .lcmp), (23, .ifCond .ne 8), (26, .bipush (-22)), (28, .goto 17), (31, .lload_n 2)], [(32, .lload 4), (34, .lrem), (35, .lconst 0), (36, .lcmp), (37, .ifCond .ne 7), (40, .iconst 1), (41, .goto 4), (44, .iconst 0), (45, .ireturn), (46, .aload_n 0), (47, .getfield 20)], [(50, .iload_n 1), (51, .iaload), (52, .bipush 60), (54, .if_icmp .ne 13), (57, .lload_n 2), (58, .lload 4), (60, .lcmp), (61, .ifCond .ge 38)], [(64, .goto 31), (67, .aload_n 0), (68, .getfield 20), (71, .iload_n 1), (72, .iaload), (73, .bipush 62), (75, .if_icmp .ne 13), (78, .lload_n 2), (79, .lload 4)], [(81, .lcmp), (82, .ifCond .le 17), (85, .goto 10), (88, .lload_n 2), (89, .lload 4), (91, .lcmp), (92, .ifCond .ne 7), (95, .iconst 1)], [(96, .goto 4), (99, .iconst 0), (100, .ireturn)]]
theorem uX8_passes_0 : ∀ r ∈ tX8_passes_0, xchk1 cX8_passes r = true := fun r hr => List.all_eq_true.mp (by decide +kernel : (tX8_passes_0.all (fun r => xchk1 cX8_passes r)) = true) r hr
def tX8_passes : List (List (Nat × Instr)) := tX8_passes_0
theorem uX8_passes : ∀ r ∈ tX8_passes, xchk1 cX8_passes r = true := uX8_passes_0
def tX8_place_0 : List (List (Nat × Instr)) := [[(0, .aload_n 0), (1, .iload_n 1), (2, .invokevirtual 323), (5, .istore_n 3), (6, .iload_n 3), (7, .ifCond .ge 5), (10, .iload_n 3), (11, .ireturn), (12, .iload_n 2), (13, .bipush 64), (15, .if_icmp .lt 6)], [(18, .bipush (-24)), (20, .ireturn), (21, .aload_n 0), (22, .getfield 45), (25, .iload_n 3), (26, .iaload), (27, .ifCond .ne 136), (30, .aload_n 0), (31, .getfield 42)], [(34, .iload_n 3), (35, .iaload), (36, .iload_n 2), (37, .if_icmp .gt 126), (40, .aload_n 0), (41, .getfield 48), (44, .iload_n 3), (45, .baload), (46, .ifCond .eq 6)], [(49, .bipush (-21)), (51, .ireturn), (52, .aload_n 0), (53, .getfield 326), (56, .aload_n 0), (57, .getfield 329), (60, .if_icmp .ne 6), (63, .bipush (-6))], [(65, .ireturn), (66, .aload_n 0), (67, .dup), (68, .getfield 326), (71, .iconst 1), (72, .iadd), (73, .putfield 326), (76, .aload_n 0), (77, .getfield 48)], [(80, .iload_n 3), (81, .iconst 1), (82, .bastore), (83, .aload_n 0), (84, .iload_n 3), (85, .aload_n 0), (86, .getfield 42), (89, .iload_n 3), (90, .iaload), (91, .invokevirtual 332), (94, .istore 4)], [(96, .aload_n 0), (97, .getfield 48), (100, .iload_n 3), (101, .iconst 0), (102, .bastore), (103, .iload 4), (105, .bipush (-6)), (107, .if_icmp .ne 6), (110, .bipush (-6))], [(112, .ireturn), (113, .aload_n 0), (114, .getfield 42), (117, .iload_n 3), (118, .dup2), (119, .iaload), (120, .iload 4), (122, .iconst 1), (123, .if_icmp .ne 7), (126, .iconst 1), (127, .goto 4)]]
theorem uX8_place_0 : ∀ r ∈ tX8_place_0, xchk1 cX8_place r = true := fun r hr => List.all_eq_true.mp (by decide +kernel : (tX8_place_0.all (fun r => xchk1 cX8_place r)) = true) r hr
def tX8_place_1 : List (List (Nat × Instr)) := [[(130, .iconst 0), (131, .iadd), (132, .iastore), (133, .aload_n 0), (134, .getfield 45), (137, .iload_n 3), (138, .iload 4), (140, .iconst 1), (141, .if_icmp .ne 7)], [(144, .iconst 0), (145, .goto 14), (148, .iload 4), (150, .ifCond .ne 7), (153, .iconst 1), (154, .goto 5), (157, .iload 4), (159, .iastore)], [(160, .goto (-139)), (163, .iload_n 2), (164, .aload_n 0), (165, .getfield 42), (168, .iload_n 3), (169, .iaload), (170, .if_icmp .ge 7), (173, .iconst 1), (174, .goto 23)], [(177, .aload_n 0), (178, .getfield 45), (181, .iload_n 3), (182, .iaload), (183, .iconst 1), (184, .if_icmp .ne 7), (187, .iconst 0), (188, .goto 9), (191, .aload_n 0)], [(192, .getfield 45), (195, .iload_n 3), (196, .iaload), (197, .ireturn)]]
theorem uX8_place_1 : ∀ r ∈ tX8_place_1, xchk1 cX8_place r = true := fun r hr => List.all_eq_true.mp (by decide +kernel : (tX8_place_1.all (fun r => xchk1 cX8_place r)) = true) r hr
def tX8_place : List (List (Nat × Instr)) := tX8_place_0 ++ (tX8_place_1)
theorem uX8_place : ∀ r ∈ tX8_place, xchk1 cX8_place r = true := xap uX8_place_0 (uX8_place_1)
def tX8_plain_0 : List (List (Nat × Instr)) := [[(0, .aload_n 0), (1, .getfield 218), (4, .ifCond .ne 26), (7, .aload_n 0), (8, .getfield 196), (11, .iconst 2), (12, .if_icmp .ne 18), (15, .aload_n 0)], [(16, .getfield 211), (19, .i2l), (20, .iload_n 1), (21, .i2l), (22, .iload_n 2), (23, .i2l), (24, .invokestatic 177), (27, .ifCond .ne 9), (30, .aload_n 0), (31, .invokevirtual 245)], [(34, .lconst 0), (35, .lreturn), (36, .aload_n 0), (37, .getfield 211), (40, .i2l), (41, .lstore_n 3), (42, .aload_n 0), (43, .invokevirtual 238), (46, .lload_n 3), (47, .lreturn)]]
theorem uX8_plain_0 : ∀ r ∈ tX8_plain_0, xchk1 cX8_plain r = true := fun r hr => List.all_eq_true.mp (by decide +kernel : (tX8_plain_0.all (fun r => xchk1 cX8_plain r)) = true) r hr
def tX8_plain : List (List (Nat × Instr)) := tX8_plain_0
theorem uX8_plain : ∀ r ∈ tX8_plain, xchk1 cX8_plain r = true := uX8_plain_0
def tX8_print_0 : List (List (Nat × Instr)) := [[(0, .iload_n 1), (1, .invokestatic 266), (4, .ifCond .ne 6), (7, .bipush (-2)), (9, .ireturn), (10, .aload_n 0), (11, .getfield 13), (14, .iload_n 1), (15, .iaload)], [(16, .ifCond .ne 6), (19, .bipush (-3)), (21, .ireturn), (22, .aload_n 0), (23, .iload_n 1), (24, .invokevirtual 320), (27, .iload_n 2), (28, .iconst (-1)), (29, .if_icmp .ne 10)], [(32, .aload_n 0), (33, .getfield 298), (36, .goto 30), (39, .iload_n 2), (40, .i2l), (41, .lconst 0), (42, .aload_n 0), (43, .getfield 298), (46, .iconst 1), (47, .isub)], [(48, .i2l), (49, .invokestatic 177), (52, .ifCond .eq 12), (55, .aload_n 0), (56, .getfield 91), (59, .iload_n 2), (60, .iaload), (61, .goto 5)], [(64, .bipush (-12)), (66, .ireturn)]]
theorem uX8_print_0 : ∀ r ∈ tX8_print_0, xchk1 cX8_print r = true := fun r hr => List.all_eq_true.mp (by decide +kernel : (tX8_print_0.all (fun r => xchk1 cX8_print r)) = true) r hr
def tX8_print : List (List (Nat × Instr)) := tX8_print_0
theorem uX8_print : ∀ r ∈ tX8_print, xchk1 cX8_print r = true := uX8_print_0
def tX8_prints_0 : List (List (Nat × Instr)) := [[(0, .aload_n 0), (1, .iconst 0), (2, .putfield 298), (5, .iconst 0), (6, .istore_n 2), (7, .iload_n 2), (8, .aload_n 0), (9, .getfield 13), (12, .iload_n 1), (13, .iaload), (14, .if_icmp .ge 137)], [(17, .bipush 24), (19, .iload_n 1), (20, .imul), (21, .iload_n 2), (22, .iadd), (23, .istore_n 3), (24, .aload_n 0), (25, .iload_n 3), (26, .invokevirtual 313), (29, .aload_n 0), (30, .getfield 20)], [(33, .iload_n 3), (34, .iaload), (35, .ifCond .eq 17), (38, .aload_n 0), (39, .aload_n 0), (40, .getfield 20), (43, .iload_n 3), (44, .iaload), (45, .iconst 0), (46, .iconst 0), (47, .iconst 0)], [(48, .iconst 0), (49, .invokevirtual 309), (52, .aload_n 0), (53, .getfield 17), (56, .iload_n 3), (57, .iaload), (58, .invokestatic 282), (61, .ifCond .eq 13)], [(64, .aload_n 0), (65, .aload_n 0), (66, .getfield 26), (69, .iload_n 3), (70, .laload), (71, .invokevirtual 316), (74, .aload_n 0), (75, .getfield 17), (78, .iload_n 3), (79, .iaload)], [(80, .iconst 1), (81, .if_icmp .ne 13), (84, .aload_n 0), (85, .aload_n 0), (86, .getfield 30), (89, .iload_n 3), (90, .laload), (91, .invokevirtual 316), (94, .iconst 0), (95, .istore 4)], [(97, .iload 4), (99, .aload_n 0), (100, .getfield 33), (103, .iload_n 3), (104, .iaload), (105, .if_icmp .ge 40), (108, .iload 4), (110, .ifCond .le 13)], [(113, .aload_n 0), (114, .bipush 44), (116, .iconst 0), (117, .iconst 0), (118, .iconst 0), (119, .iconst 0), (120, .invokevirtual 309), (123, .aload_n 0), (124, .aload_n 0), (125, .getfield 36)]]
theorem uX8_prints_0 : ∀ r ∈ tX8_prints_0, xchk1 cX8_prints r = true := fun r hr => List.all_eq_true.mp (by decide +kernel : (tX8_prints_0.all (fun r => xchk1 cX8_prints r)) = true) r hr
def tX8_prints_1 : List (List (Nat × Instr)) := [[(128, .bipush 8), (130, .iload_n 3), (131, .imul), (132, .iload 4), (134, .iadd), (135, .laload), (136, .invokevirtual 316), (139, .iinc 4 1), (142, .goto (-45))], [(145, .iinc 2 1), (148, .goto (-141)), (151, .return_)]]
theorem uX8_prints_1 : ∀ r ∈ tX8_prints_1, xchk1 cX8_prints r = true := fun r hr => List.all_eq_true.mp (by decide +kernel : (tX8_prints_1.all (fun r => xchk1 cX8_prints r)) = true) r hr
def tX8_prints : List (List (Nat × Instr)) := tX8_prints_0 ++ (tX8_prints_1)
theorem uX8_prints : ∀ r ∈ tX8_prints, xchk1 cX8_prints r = true := xap uX8_prints_0 (uX8_prints_1)
def tX8_put_0 : List (List (Nat × Instr)) := [[(0, .iload_n 1), (1, .invokestatic 403), (4, .ifCond .ne 6), (7, .bipush (-2)), (9, .ireturn), (10, .aload_n 0), (11, .getfield 163), (14, .iload_n 1), (15, .baload)], [(16, .ifCond .ne 6), (19, .bipush (-11)), (21, .ireturn), (22, .iload_n 2), (23, .i2l), (24, .lconst 0), (25, .aload_n 0), (26, .getfield 169), (29, .iload_n 1), (30, .iaload), (31, .iconst 1)], [(32, .isub), (33, .i2l), (34, .invokestatic 177), (37, .ifCond .ne 6), (40, .bipush (-12)), (42, .ireturn), (43, .aload_n 0), (44, .getfield 172), (47, .bipush 40)], [(49, .iload_n 1), (50, .imul), (51, .iload_n 2), (52, .iadd), (53, .aload_n 0), (54, .getfield 166), (57, .iload_n 1), (58, .iaload), (59, .ifCond .ne 7), (62, .lload_n 3), (63, .goto 23)], [(66, .aload_n 0), (67, .getfield 166), (70, .iload_n 1), (71, .iaload), (72, .iconst 1), (73, .if_icmp .ne 9), (76, .lload_n 3), (77, .l2i), (78, .i2l), (79, .goto 7)], [(82, .lload_n 3), (83, .l2i), (84, .i2b), (85, .i2l), (86, .lastore), (87, .iconst 1), (88, .ireturn)]]
theorem uX8_put_0 : ∀ r ∈ tX8_put_0, xchk1 cX8_put r = true := fun r hr => List.all_eq_true.mp (by decide +kernel : (tX8_put_0.all (fun r => xchk1 cX8_put r)) = true) r hr
def tX8_put : List (List (Nat × Instr)) := tX8_put_0
theorem uX8_put : ∀ r ∈ tX8_put, xchk1 cX8_put r = true := uX8_put_0
def tX8_puts_0 : List (List (Nat × Instr)) := [[(0, .aload_n 0), (1, .getfield 91), (4, .aload_n 0), (5, .getfield 298), (8, .iload_n 1), (9, .iastore), (10, .aload_n 0), (11, .dup), (12, .getfield 298), (15, .iconst 1)], [(16, .iadd), (17, .putfield 298), (20, .return_)]]
theorem uX8_puts_0 : ∀ r ∈ tX8_puts_0, xchk1 cX8_puts r = true := fun r hr => List.all_eq_true.mp (by decide +kernel : (tX8_puts_0.all (fun r => xchk1 cX8_puts r)) = true) r hr
def tX8_puts : List (List (Nat × Instr)) := tX8_puts_0
theorem uX8_puts : ∀ r ∈ tX8_puts, xchk1 cX8_puts r = true := uX8_puts_0
def tX8_rises_0 : List (List (Nat × Instr)) := [[(0, .iload_n 1), (1, .invokestatic 266), (4, .ifCond .ne 6), (7, .bipush (-2)), (9, .ireturn), (10, .aload_n 0), (11, .getfield 13), (14, .iload_n 1), (15, .iaload)], [(16, .ifCond .ne 6), (19, .bipush (-3)), (21, .ireturn), (22, .aload_n 0), (23, .aload_n 0), (24, .getfield 39), (27, .invokevirtual 375), (30, .iconst 0), (31, .istore_n 2)], [(32, .lconst 0), (33, .lstore_n 3), (34, .iconst 1), (35, .istore 5), (37, .iconst 0), (38, .istore 6), (40, .iload 6), (42, .bipush 64), (44, .if_icmp .ge 66), (47, .iload 5)], [(49, .iconst 1), (50, .if_icmp .ne 60), (53, .aload_n 0), (54, .iload_n 1), (55, .iload 6), (57, .invokevirtual 381), (60, .istore 5), (62, .iload 5)], [(64, .iconst 1), (65, .if_icmp .ne 20), (68, .iload 6), (70, .ifCond .le 15), (73, .aload_n 0), (74, .getfield 351), (77, .lload_n 3), (78, .lcmp), (79, .ifCond .gt 6)], [(82, .iconst 0), (83, .istore 5), (85, .iload_n 2), (86, .iload 5), (88, .iconst 1), (89, .if_icmp .ne 7), (92, .iconst 1), (93, .goto 4)], [(96, .iconst 0), (97, .iadd), (98, .istore_n 2), (99, .aload_n 0), (100, .getfield 351), (103, .lstore_n 3), (104, .iinc 6 1), (107, .goto (-67)), (110, .aload_n 0), (111, .aload_n 0)], [(112, .getfield 326), (115, .putfield 378), (118, .iload 5), (120, .bipush (-6)), (122, .if_icmp .ne 8), (125, .bipush (-6)), (127, .goto 4)]]
theorem uX8_rises_0 : ∀ r ∈ tX8_rises_0, xchk1 cX8_rises r = true := fun r hr => List.all_eq_true.mp (by decide +kernel : (tX8_rises_0.all (fun r => xchk1 cX8_rises r)) = true) r hr
def tX8_rises_1 : List (List (Nat × Instr)) := [[(130, .iload_n 2), (131, .ireturn)]]
theorem uX8_rises_1 : ∀ r ∈ tX8_rises_1, xchk1 cX8_rises r = true := fun r hr => List.all_eq_true.mp (by decide +kernel : (tX8_rises_1.all (fun r => xchk1 cX8_rises r)) = true) r hr
def tX8_rises : List (List (Nat × Instr)) := tX8_rises_0 ++ (tX8_rises_1)
theorem uX8_rises : ∀ r ∈ tX8_rises, xchk1 cX8_rises r = true := xap uX8_rises_0 (uX8_rises_1)
def tX8_row_0 : List (List (Nat × Instr)) := [[(0, .aload_n 0), (1, .getfield 218), (4, .ifCond .ne 20), (7, .aload_n 0), (8, .getfield 196), (11, .iconst 1), (12, .if_icmp .ne 12), (15, .aload_n 0)], [(16, .getfield 248), (19, .bipush 24), (21, .if_icmp .ne 8), (24, .aload_n 0), (25, .invokevirtual 245), (28, .return_), (29, .aload_n 0), (30, .getfield 248)], [(33, .istore_n 1), (34, .aload_n 0), (35, .invokevirtual 203), (38, .istore_n 2), (39, .aload_n 0), (40, .dup), (41, .getfield 248), (44, .iconst 1), (45, .iadd), (46, .putfield 248)], [(49, .aload_n 0), (50, .getfield 70), (53, .iload_n 1), (54, .iload_n 2), (55, .iastore), (56, .aload_n 0), (57, .getfield 73), (60, .iload_n 1), (61, .iconst 0), (62, .iastore), (63, .aload_n 0)], [(64, .getfield 85), (67, .iload_n 1), (68, .iconst 0), (69, .iastore), (70, .aload_n 0), (71, .getfield 79), (74, .iload_n 1), (75, .iload_n 2), (76, .ifCond .ne 18), (79, .aload_n 0)], [(80, .aload_n 0), (81, .getfield 193), (84, .invokevirtual 189), (87, .bipush 97), (89, .isub), (90, .i2l), (91, .goto 4), (94, .lconst 0), (95, .lastore)], [(96, .aload_n 0), (97, .invokevirtual 238), (100, .aload_n 0), (101, .getfield 73), (104, .iload_n 1), (105, .iload_n 2), (106, .iconst 3), (107, .if_icmp .eq 15), (110, .iload_n 2), (111, .bipush 6)], [(113, .if_icmp .eq 9), (116, .iload_n 2), (117, .bipush 10), (119, .if_icmp .ne 11), (122, .aload_n 0), (123, .iconst 0), (124, .invokevirtual 251), (127, .goto 22)]]
theorem uX8_row_0 : ∀ r ∈ tX8_row_0, xchk1 cX8_row r = true := fun r hr => List.all_eq_true.mp (by decide +kernel : (tX8_row_0.all (fun r => xchk1 cX8_row r)) = true) r hr
def tX8_row_1 : List (List (Nat × Instr)) := [[(130, .iload_n 2), (131, .iconst 4), (132, .if_icmp .eq 8), (135, .iload_n 2), (136, .iconst 5), (137, .if_icmp .ne 11), (140, .aload_n 0), (141, .iconst 1), (142, .invokevirtual 251)], [(145, .goto 4), (148, .iconst 0), (149, .iastore), (150, .aload_n 0), (151, .getfield 218), (154, .ifCond .ne 39), (157, .iload_n 2), (158, .iconst 1), (159, .if_icmp .eq 24)], [(162, .iload_n 2), (163, .iconst 3), (164, .if_icmp .eq 19), (167, .iload_n 2), (168, .iconst 4), (169, .if_icmp .eq 14), (172, .iload_n 2), (173, .iconst 5), (174, .if_icmp .eq 9)], [(177, .iload_n 2), (178, .bipush 12), (180, .if_icmp .ne 13), (183, .aload_n 0), (184, .getfield 79), (187, .iload_n 1), (188, .aload_n 0), (189, .invokevirtual 255)], [(192, .lastore), (193, .aload_n 0), (194, .getfield 218), (197, .ifCond .ne 56), (200, .iload_n 2), (201, .bipush 8), (203, .if_icmp .eq 15), (206, .iload_n 2), (207, .bipush 9)], [(209, .if_icmp .eq 9), (212, .iload_n 2), (213, .bipush 13), (215, .if_icmp .ne 38), (218, .aload_n 0), (219, .getfield 79), (222, .iload_n 1), (223, .aload_n 0)], [(224, .iload_n 2), (225, .bipush 13), (227, .if_icmp .ne 7), (230, .iconst 1), (231, .goto 4), (234, .iconst 0), (235, .iload_n 2), (236, .bipush 13), (238, .if_icmp .ne 8)], [(241, .bipush 9), (243, .goto 6), (246, .sipush 9999), (249, .invokevirtual 241), (252, .lastore), (253, .aload_n 0), (254, .getfield 218)]]
theorem uX8_row_1 : ∀ r ∈ tX8_row_1, xchk1 cX8_row r = true := fun r hr => List.all_eq_true.mp (by decide +kernel : (tX8_row_1.all (fun r => xchk1 cX8_row r)) = true) r hr
def tX8_row_2 : List (List (Nat × Instr)) := [[(257, .ifCond .ne 18), (260, .iload_n 2), (261, .iconst 1), (262, .if_icmp .ne 13), (265, .aload_n 0), (266, .getfield 82), (269, .iload_n 1), (270, .aload_n 0), (271, .invokevirtual 255)], [(274, .lastore), (275, .aload_n 0), (276, .getfield 218), (279, .ifCond .ne 13), (282, .iload_n 2), (283, .iconst 2), (284, .if_icmp .ne 8), (287, .aload_n 0)], [(288, .iload_n 1), (289, .invokevirtual 259), (292, .aload_n 0), (293, .getfield 218), (296, .ifCond .ne 12), (299, .iload_n 2), (300, .iconst 2), (301, .if_icmp .le 7)], [(304, .aload_n 0), (305, .invokevirtual 263), (308, .aload_n 0), (309, .getfield 218), (312, .ifCond .ne 19), (315, .iload_n 2), (316, .bipush 6), (318, .if_icmp .eq 9)], [(321, .iload_n 2), (322, .bipush 7), (324, .if_icmp .ne 7), (327, .aload_n 0), (328, .invokevirtual 263), (331, .aload_n 0), (332, .getfield 76), (335, .iload_n 1)], [(336, .aload_n 0), (337, .getfield 248), (340, .iload_n 1), (341, .isub), (342, .iastore), (343, .return_)]]
theorem uX8_row_2 : ∀ r ∈ tX8_row_2, xchk1 cX8_row r = true := fun r hr => List.all_eq_true.mp (by decide +kernel : (tX8_row_2.all (fun r => xchk1 cX8_row r)) = true) r hr
def tX8_row : List (List (Nat × Instr)) := tX8_row_0 ++ (tX8_row_1 ++ (tX8_row_2))
theorem uX8_row : ∀ r ∈ tX8_row, xchk1 cX8_row r = true := xap uX8_row_0 (xap uX8_row_1 (uX8_row_2))
def tX8_sheet_0 : List (List (Nat × Instr)) := [[(0, .iload_n 1), (1, .invokestatic 403), (4, .ifCond .eq 27), (7, .iload_n 2), (8, .i2l), (9, .ldc2_w 427), (12, .ldc2_w 293), (15, .invokestatic 177)], [(18, .ifCond .eq 13), (21, .iload_n 2), (22, .ifCond .lt 12), (25, .iload_n 3), (26, .bipush 40), (28, .if_icmp .le 6), (31, .bipush (-2))], [(33, .ireturn), (34, .iload_n 2), (35, .ifCond .lt 10), (38, .iload_n 3), (39, .ifCond .ge 6), (42, .bipush (-14)), (44, .ireturn), (45, .aload_n 0), (46, .getfield 163)], [(49, .iload_n 1), (50, .iload_n 2), (51, .ifCond .lt 7), (54, .iconst 1), (55, .goto 4), (58, .iconst 0), (59, .bastore), (60, .aload_n 0), (61, .getfield 166)], [(64, .iload_n 1), (65, .iload_n 2), (66, .iastore), (67, .aload_n 0), (68, .getfield 169), (71, .iload_n 1), (72, .iload_n 3), (73, .iastore), (74, .iconst 0), (75, .istore 4), (77, .iload 4), (79, .iload_n 3)], [(80, .if_icmp .ge 26), (83, .iload_n 2), (84, .ifCond .lt 22), (87, .aload_n 0), (88, .getfield 172), (91, .bipush 40), (93, .iload_n 1), (94, .imul), (95, .iload 4)], [(97, .iadd), (98, .lconst 0), (99, .lastore), (100, .iinc 4 1), (103, .goto (-26)), (106, .iconst 1), (107, .ireturn)]]
theorem uX8_sheet_0 : ∀ r ∈ tX8_sheet_0, xchk1 cX8_sheet r = true := fun r hr => List.all_eq_true.mp (by decide +kernel : (tX8_sheet_0.all (fun r => xchk1 cX8_sheet r)) = true) r hr
def tX8_sheet : List (List (Nat × Instr)) := tX8_sheet_0
theorem uX8_sheet : ∀ r ∈ tX8_sheet, xchk1 cX8_sheet r = true := uX8_sheet_0
def tX8_sieved_0 : List (List (Nat × Instr)) := [[(0, .iconst 0), (1, .istore 5), (3, .iload 5), (5, .iload_n 2), (6, .if_icmp .ge 52), (9, .aload_n 0), (10, .iload_n 1), (11, .iload 5), (13, .invokevirtual 348)], [(16, .istore 6), (18, .iload 6), (20, .iconst 1), (21, .if_icmp .eq 6), (24, .iload 6), (26, .ireturn), (27, .aload_n 0), (28, .getfield 351), (31, .lconst 0)], [(32, .lcmp), (33, .ifCond .ne 6), (36, .bipush (-22)), (38, .ireturn), (39, .lload_n 3), (40, .aload_n 0), (41, .getfield 351), (44, .lrem), (45, .lconst 0), (46, .lcmp), (47, .ifCond .ne 5)], [(50, .iconst 0), (51, .ireturn), (52, .iinc 5 1), (55, .goto (-52)), (58, .iconst 1), (59, .ireturn)]]
theorem uX8_sieved_0 : ∀ r ∈ tX8_sieved_0, xchk1 cX8_sieved r = true := fun r hr => List.all_eq_true.mp (by decide +kernel : (tX8_sieved_0.all (fun r => xchk1 cX8_sieved r)) = true) r hr
def tX8_sieved : List (List (Nat × Instr)) := tX8_sieved_0
theorem uX8_sieved : ∀ r ∈ tX8_sieved, xchk1 cX8_sieved r = true := uX8_sieved_0
def tX8_sum_0 : List (List (Nat × Instr)) := [[(0, .aload_n 0), (1, .iload_n 1), (2, .invokevirtual 392), (5, .ifCond .eq 15), (8, .iload_n 2), (9, .i2l), (10, .lconst 0), (11, .ldc2_w 395), (14, .invokestatic 177)], [(17, .ifCond .ne 7), (20, .ldc2_w 285), (23, .lreturn), (24, .aload_n 0), (25, .aload_n 0), (26, .getfield 39), (29, .invokevirtual 375)], [(32, .lconst 0), (33, .lstore_n 3), (34, .iconst 1), (35, .istore 5), (37, .iconst 0), (38, .istore 6), (40, .iload 6), (42, .iload_n 2), (43, .if_icmp .ge 41), (46, .iload 5)], [(48, .iconst 1), (49, .if_icmp .ne 35), (52, .aload_n 0), (53, .iload_n 1), (54, .iload 6), (56, .invokevirtual 381), (59, .istore 5), (61, .lload_n 3), (62, .iload 5)], [(64, .iconst 1), (65, .if_icmp .ne 10), (68, .aload_n 0), (69, .getfield 351), (72, .goto 4), (75, .lconst 0), (76, .ladd), (77, .lstore_n 3), (78, .iinc 6 1)], [(81, .goto (-41)), (84, .aload_n 0), (85, .aload_n 0), (86, .getfield 326), (89, .putfield 378), (92, .iload 5), (94, .ifCond .ge 9)], [(97, .ldc2_w 285), (100, .goto 4), (103, .lload_n 3), (104, .lreturn)]]
theorem uX8_sum_0 : ∀ r ∈ tX8_sum_0, xchk1 cX8_sum r = true := fun r hr => List.all_eq_true.mp (by decide +kernel : (tX8_sum_0.all (fun r => xchk1 cX8_sum r)) = true) r hr
def tX8_sum : List (List (Nat × Instr)) := tX8_sum_0
theorem uX8_sum : ∀ r ∈ tX8_sum, xchk1 cX8_sum r = true := uX8_sum_0
def tX8_taken_0 : List (List (Nat × Instr)) := [[(0, .iload_n 1), (1, .invokestatic 266), (4, .ifCond .eq 15), (7, .iload_n 3), (8, .i2l), (9, .lconst 0), (10, .ldc2_w 293), (13, .invokestatic 177)], [(16, .ifCond .ne 6), (19, .bipush (-2)), (21, .ireturn), (22, .aload_n 0), (23, .getfield 13), (26, .iload_n 1), (27, .iaload), (28, .ifCond .ne 6), (31, .bipush (-3))], [(33, .ireturn), (34, .aload_n 0), (35, .iload_n 1), (36, .iload_n 2), (37, .invokevirtual 276), (40, .ifCond .ne 6), (43, .bipush (-12)), (45, .ireturn), (46, .aload_n 0), (47, .getfield 17)], [(50, .bipush 24), (52, .iload_n 1), (53, .imul), (54, .iload_n 2), (55, .iadd), (56, .iaload), (57, .invokestatic 295), (60, .iload_n 3), (61, .if_icmp .ne 19)], [(64, .aload_n 0), (65, .getfield 23), (68, .bipush 24), (70, .iload_n 1), (71, .imul), (72, .iload_n 2), (73, .iadd), (74, .iaload), (75, .iconst 1), (76, .isub), (77, .goto 5)], [(80, .bipush (-13)), (82, .ireturn)]]
theorem uX8_taken_0 : ∀ r ∈ tX8_taken_0, xchk1 cX8_taken r = true := fun r hr => List.all_eq_true.mp (by decide +kernel : (tX8_taken_0.all (fun r => xchk1 cX8_taken r)) = true) r hr
def tX8_taken : List (List (Nat × Instr)) := tX8_taken_0
theorem uX8_taken : ∀ r ∈ tX8_taken, xchk1 cX8_taken r = true := uX8_taken_0
def tX8_tells_0 : List (List (Nat × Instr)) := [[(0, .iload_n 1), (1, .invokestatic 403), (4, .ifCond .eq 26), (7, .iload_n 2), (8, .invokestatic 266), (11, .ifCond .eq 19), (14, .iload_n 3), (15, .ifCond .eq 18)], [(18, .iload_n 3), (19, .iconst 4), (20, .if_icmp .lt 10), (23, .iload_n 3), (24, .iconst 4), (25, .irem), (26, .iconst 1), (27, .if_icmp .le 6), (30, .bipush (-2))], [(32, .ireturn), (33, .aload_n 0), (34, .getfield 13), (37, .iload_n 2), (38, .iaload), (39, .ifCond .ne 6), (42, .bipush (-3)), (44, .ireturn), (45, .iload_n 3), (46, .iconst 4), (47, .idiv)], [(48, .iconst 1), (49, .isub), (50, .istore 4), (52, .bipush 24), (54, .iload_n 2), (55, .imul), (56, .iload 4), (58, .iadd), (59, .istore 5), (61, .iload_n 3), (62, .ifCond .eq 16)], [(65, .aload_n 0), (66, .iload_n 2), (67, .iload 4), (69, .invokevirtual 276), (72, .ifCond .ne 6), (75, .bipush (-12)), (77, .ireturn), (78, .iload_n 3), (79, .ifCond .eq 19)], [(82, .aload_n 0), (83, .getfield 17), (86, .iload 5), (88, .iaload), (89, .invokestatic 282), (92, .ifCond .ne 6), (95, .bipush (-13))], [(97, .ireturn), (98, .aload_n 0), (99, .getfield 163), (102, .iload_n 1), (103, .baload), (104, .ifCond .ne 6), (107, .bipush (-11)), (109, .ireturn), (110, .aload_n 0), (111, .getfield 169)], [(114, .iload_n 1), (115, .iaload), (116, .bipush 16), (118, .if_icmp .le 6), (121, .bipush (-2)), (123, .ireturn), (124, .iconst 0), (125, .istore 6), (127, .iconst 0)]]
theorem uX8_tells_0 : ∀ r ∈ tX8_tells_0, xchk1 cX8_tells r = true := fun r hr => List.all_eq_true.mp (by decide +kernel : (tX8_tells_0.all (fun r => xchk1 cX8_tells r)) = true) r hr
def tX8_tells_1 : List (List (Nat × Instr)) := [[(128, .istore 7), (130, .iload 7), (132, .bipush 8), (134, .if_icmp .ge 47), (137, .iload_n 3), (138, .ifCond .ne 43), (141, .iload 6), (143, .aload_n 0)], [(144, .getfield 13), (147, .iload 7), (149, .iaload), (150, .ifCond .le 18), (153, .aload_n 0), (154, .iload_n 1), (155, .iload 7), (157, .iconst 0), (158, .invokevirtual 412)], [(161, .ifCond .eq 7), (164, .iconst 1), (165, .goto 4), (168, .iconst 0), (169, .iload 7), (171, .ishl), (172, .ior), (173, .istore 6), (175, .iinc 7 1)], [(178, .goto (-48)), (181, .iload_n 3), (182, .ifCond .ne 6), (185, .iload 6), (187, .ireturn), (188, .aload_n 0), (189, .getfield 26)], [(192, .iload 5), (194, .laload), (195, .lstore 7), (197, .iconst 0), (198, .istore 9), (200, .iconst (-1)), (201, .istore 10), (203, .aload_n 0), (204, .getfield 17), (207, .iload 5)], [(209, .iaload), (210, .bipush 13), (212, .if_icmp .ne 8), (215, .bipush 9), (217, .goto 5), (220, .bipush 20), (222, .istore 11)], [(224, .iload 11), (226, .aload_n 0), (227, .getfield 17), (230, .iload 5), (232, .iaload), (233, .bipush 13), (235, .if_icmp .ne 7), (238, .iconst 1), (239, .goto 4)], [(242, .iconst 0), (243, .if_icmp .lt 57), (246, .aload_n 0), (247, .getfield 26), (250, .iload 5), (252, .iload 11), (254, .i2l), (255, .lastore)]]
theorem uX8_tells_1 : ∀ r ∈ tX8_tells_1, xchk1 cX8_tells r = true := fun r hr => List.all_eq_true.mp (by decide +kernel : (tX8_tells_1.all (fun r => xchk1 cX8_tells r)) = true) r hr
def tX8_tells_2 : List (List (Nat × Instr)) := [[(256, .aload_n 0), (257, .iload_n 1), (258, .iload_n 2), (259, .iconst 1), (260, .invokevirtual 412), (263, .istore 12), (265, .iload 9), (267, .iload 12), (269, .ifCond .eq 7)], [(272, .iconst 1), (273, .goto 4), (276, .iconst 0), (277, .iadd), (278, .istore 9), (280, .iload 12), (282, .ifCond .eq 8), (285, .iload 11), (287, .goto 5)], [(290, .iload 10), (292, .istore 10), (294, .iinc 11 (-1)), (297, .goto (-73)), (300, .aload_n 0), (301, .getfield 26)], [(304, .iload 5), (306, .lload 7), (308, .lastore), (309, .iload_n 3), (310, .iconst 4), (311, .irem), (312, .ifCond .ne 8), (315, .iload 9), (317, .goto 5)], [(320, .iload 10), (322, .ireturn)]]
theorem uX8_tells_2 : ∀ r ∈ tX8_tells_2, xchk1 cX8_tells r = true := fun r hr => List.all_eq_true.mp (by decide +kernel : (tX8_tells_2.all (fun r => xchk1 cX8_tells r)) = true) r hr
def tX8_tells : List (List (Nat × Instr)) := tX8_tells_0 ++ (tX8_tells_1 ++ (tX8_tells_2))
theorem uX8_tells : ∀ r ∈ tX8_tells, xchk1 cX8_tells r = true := xap uX8_tells_0 (xap uX8_tells_1 (uX8_tells_2))
def tX8_tellsHead_0 : List (List (Nat × Instr)) := [[(0, .aload_n 0), (1, .getfield 17), (4, .iload_n 1), (5, .iaload), (6, .istore_n 3), (7, .iload_n 3), (8, .iconst 1), (9, .if_icmp .eq 18), (12, .iload_n 3), (13, .iconst 2), (14, .if_icmp .eq 13)], [(17, .iload_n 3), (18, .bipush 12), (20, .if_icmp .ne 62), (23, .iload_n 2), (24, .ifCond .ne 58), (27, .aload_n 0), (28, .iload_n 3), (29, .iconst 1), (30, .if_icmp .ne 22)], [(33, .aload_n 0), (34, .getfield 26), (37, .iload_n 1), (38, .laload), (39, .iload_n 2), (40, .i2l), (41, .aload_n 0), (42, .getfield 30), (45, .iload_n 1), (46, .laload), (47, .lmul)], [(48, .ladd), (49, .goto 28), (52, .iload_n 3), (53, .iconst 2), (54, .if_icmp .ne 17), (57, .aload_n 0), (58, .getfield 36), (61, .bipush 8), (63, .iload_n 1)], [(64, .imul), (65, .iload_n 2), (66, .iadd), (67, .laload), (68, .goto 9), (71, .aload_n 0), (72, .getfield 26), (75, .iload_n 1), (76, .laload), (77, .putfield 351)], [(80, .iconst 1), (81, .ireturn), (82, .iload_n 3), (83, .bipush 13), (85, .if_icmp .ne 10), (88, .aload_n 0), (89, .iload_n 1), (90, .iload_n 2), (91, .invokevirtual 366), (94, .ireturn), (95, .iload_n 3)], [(96, .iconst 4), (97, .if_icmp .eq 9), (100, .iload_n 3), (101, .bipush 11), (103, .if_icmp .ne 22), (106, .aload_n 0), (107, .iload_n 1), (108, .iconst 1), (109, .iadd), (110, .aload_n 0), (111, .getfield 64)], [(114, .bipush 64), (116, .iload_n 1), (117, .imul), (118, .iload_n 2), (119, .iadd), (120, .iaload), (121, .invokevirtual 348), (124, .ireturn), (125, .iload_n 3), (126, .bipush 7)]]
theorem uX8_tellsHead_0 : ∀ r ∈ tX8_tellsHead_0, xchk1 cX8_tellsHead r = true := fun r hr => List.all_eq_true.mp (by decide +kernel : (tX8_tellsHead_0.all (fun r => xchk1 cX8_tellsHead r)) = true) r hr
def tX8_tellsHead_1 : List (List (Nat × Instr)) := [[(128, .if_icmp .ne 43), (131, .aload_n 0), (132, .getfield 64), (135, .bipush 64), (137, .iload_n 1), (138, .imul), (139, .iload_n 2), (140, .iadd), (141, .iaload), (142, .istore 4)], [(144, .aload_n 0), (145, .iload 4), (147, .iconst 2), (148, .irem), (149, .ifCond .ne 9), (152, .iload_n 1), (153, .iconst 1), (154, .iadd), (155, .goto 8), (158, .aload_n 0), (159, .iload_n 1)], [(160, .invokevirtual 345), (163, .iload 4), (165, .iconst 2), (166, .idiv), (167, .invokevirtual 348), (170, .ireturn), (171, .iload_n 3), (172, .bipush 10), (174, .if_icmp .ne 11)], [(177, .iload_n 2), (178, .ifCond .le 7), (181, .iconst 1), (182, .goto 4), (185, .iconst 0), (186, .istore 4), (188, .iload 4), (190, .ifCond .eq 14)], [(193, .aload_n 0), (194, .iload_n 1), (195, .iload_n 2), (196, .iconst 1), (197, .isub), (198, .invokevirtual 348), (201, .goto 41), (204, .aload_n 0), (205, .iload_n 1), (206, .iconst 1), (207, .iadd)], [(208, .iload_n 3), (209, .bipush 9), (211, .if_icmp .ne 15), (214, .iload_n 2), (215, .aload_n 0), (216, .getfield 26), (219, .iload_n 1), (220, .laload), (221, .l2i), (222, .iadd), (223, .goto 16)], [(226, .iload_n 3), (227, .bipush 12), (229, .if_icmp .ne 9), (232, .iload_n 2), (233, .iconst 1), (234, .isub), (235, .goto 4), (238, .iload_n 2), (239, .invokevirtual 348)], [(242, .istore 5), (244, .iload 5), (246, .iconst 1), (247, .if_icmp .ne 19), (250, .iload_n 3), (251, .iconst 3), (252, .if_icmp .eq 17), (255, .iload_n 3)]]
theorem uX8_tellsHead_1 : ∀ r ∈ tX8_tellsHead_1, xchk1 cX8_tellsHead r = true := fun r hr => List.all_eq_true.mp (by decide +kernel : (tX8_tellsHead_1.all (fun r => xchk1 cX8_tellsHead r)) = true) r hr
def tX8_tellsHead_2 : List (List (Nat × Instr)) := [[(256, .bipush 6), (258, .if_icmp .eq 11), (261, .iload 4), (263, .ifCond .ne 6), (266, .iload 5), (268, .ireturn), (269, .aload_n 0), (270, .getfield 351)], [(273, .lstore 6), (275, .iload_n 3), (276, .iconst 3), (277, .if_icmp .ne 7), (280, .iconst 1), (281, .goto 25), (284, .aload_n 0), (285, .iload_n 3), (286, .bipush 6)], [(288, .if_icmp .ne 11), (291, .aload_n 0), (292, .iload_n 1), (293, .invokevirtual 345), (296, .goto 6), (299, .iload_n 1), (300, .iconst 1), (301, .iadd), (302, .iload_n 2), (303, .invokevirtual 348)], [(306, .istore 5), (308, .iload 5), (310, .iconst 1), (311, .if_icmp .ne 36), (314, .aload_n 0), (315, .aload_n 0), (316, .getfield 20), (319, .iload_n 1)], [(320, .iaload), (321, .lload 6), (323, .iload_n 3), (324, .iconst 3), (325, .if_icmp .ne 12), (328, .aload_n 0), (329, .getfield 26), (332, .iload_n 1), (333, .laload), (334, .goto 7)], [(337, .aload_n 0), (338, .getfield 351), (341, .invokevirtual 369), (344, .goto 5), (347, .iload 5), (349, .ireturn)]]
theorem uX8_tellsHead_2 : ∀ r ∈ tX8_tellsHead_2, xchk1 cX8_tellsHead r = true := fun r hr => List.all_eq_true.mp (by decide +kernel : (tX8_tellsHead_2.all (fun r => xchk1 cX8_tellsHead r)) = true) r hr
def tX8_tellsHead : List (List (Nat × Instr)) := tX8_tellsHead_0 ++ (tX8_tellsHead_1 ++ (tX8_tellsHead_2))
theorem uX8_tellsHead : ∀ r ∈ tX8_tellsHead, xchk1 cX8_tellsHead r = true := xap uX8_tellsHead_0 (xap uX8_tellsHead_1 (uX8_tellsHead_2))
def tX8_tellsPlace_0 : List (List (Nat × Instr)) := [[(0, .aload_n 0), (1, .getfield 17), (4, .iload_n 1), (5, .iaload), (6, .istore_n 3), (7, .iload_n 3), (8, .iconst 1), (9, .if_icmp .ne 5), (12, .iconst 1), (13, .ireturn), (14, .iload_n 3), (15, .iconst 2)], [(16, .if_icmp .ne 19), (19, .iload_n 2), (20, .aload_n 0), (21, .getfield 33), (24, .iload_n 1), (25, .iaload), (26, .if_icmp .ge 7), (29, .iconst 1), (30, .goto 4)], [(33, .iconst 0), (34, .ireturn), (35, .iload_n 3), (36, .iconst 4), (37, .if_icmp .eq 9), (40, .iload_n 3), (41, .bipush 11), (43, .if_icmp .ne 10), (46, .aload_n 0), (47, .iload_n 1)], [(48, .iload_n 2), (49, .invokevirtual 336), (52, .ireturn), (53, .iload_n 3), (54, .bipush 7), (56, .if_icmp .ne 10), (59, .aload_n 0), (60, .iload_n 1), (61, .iload_n 2), (62, .invokevirtual 339)], [(65, .ireturn), (66, .iload_n 3), (67, .bipush 8), (69, .if_icmp .ne 15), (72, .iload_n 2), (73, .i2l), (74, .aload_n 0), (75, .getfield 26), (78, .iload_n 1), (79, .laload)], [(80, .lcmp), (81, .ifCond .ge 13), (84, .iload_n 3), (85, .bipush 12), (87, .if_icmp .ne 19), (90, .iload_n 2), (91, .ifCond .ne 15), (94, .iload_n 3), (95, .bipush 12)], [(97, .if_icmp .ne 7), (100, .iconst 1), (101, .goto 4), (104, .iconst 0), (105, .ireturn), (106, .iload_n 3), (107, .bipush 9), (109, .if_icmp .ne 15)], [(112, .iload_n 2), (113, .aload_n 0), (114, .getfield 26), (117, .iload_n 1), (118, .laload), (119, .l2i), (120, .iadd), (121, .goto 38), (124, .iload_n 3), (125, .bipush 12), (127, .if_icmp .ne 9)]]
theorem uX8_tellsPlace_0 : ∀ r ∈ tX8_tellsPlace_0, xchk1 cX8_tellsPlace r = true := fun r hr => List.all_eq_true.mp (by decide +kernel : (tX8_tellsPlace_0.all (fun r => xchk1 cX8_tellsPlace r)) = true) r hr
def tX8_tellsPlace_1 : List (List (Nat × Instr)) := [[(130, .iload_n 2), (131, .iconst 1), (132, .isub), (133, .goto 26), (136, .iload_n 3), (137, .bipush 13), (139, .if_icmp .ne 19), (142, .aload_n 0), (143, .getfield 26)], [(146, .iload_n 1), (147, .laload), (148, .l2i), (149, .iload_n 2), (150, .iconst 1), (151, .iadd), (152, .imul), (153, .iconst 1), (154, .isub), (155, .goto 4), (158, .iload_n 2), (159, .istore 4)], [(161, .aload_n 0), (162, .iload_n 1), (163, .iconst 1), (164, .iadd), (165, .iload 4), (167, .invokevirtual 342), (170, .istore 5), (172, .iload 5), (174, .iconst 1), (175, .if_icmp .eq 6)], [(178, .iload 5), (180, .ireturn), (181, .iload_n 3), (182, .bipush 6), (184, .if_icmp .ne 14), (187, .aload_n 0), (188, .aload_n 0), (189, .iload_n 1), (190, .invokevirtual 345)], [(193, .iload_n 2), (194, .invokevirtual 342), (197, .ireturn), (198, .iload_n 3), (199, .iconst 5), (200, .if_icmp .eq 5), (203, .iconst 1), (204, .ireturn), (205, .aload_n 0), (206, .iload_n 1), (207, .iconst 1)], [(208, .iadd), (209, .iload_n 2), (210, .invokevirtual 348), (213, .istore 6), (215, .iload 6), (217, .iconst 1), (218, .if_icmp .ne 15), (221, .aload_n 0), (222, .iload_n 1), (223, .aload_n 0)], [(224, .getfield 351), (227, .invokevirtual 355), (230, .goto 5), (233, .iload 6), (235, .ireturn)]]
theorem uX8_tellsPlace_1 : ∀ r ∈ tX8_tellsPlace_1, xchk1 cX8_tellsPlace r = true := fun r hr => List.all_eq_true.mp (by decide +kernel : (tX8_tellsPlace_1.all (fun r => xchk1 cX8_tellsPlace r)) = true) r hr
def tX8_tellsPlace : List (List (Nat × Instr)) := tX8_tellsPlace_0 ++ (tX8_tellsPlace_1)
theorem uX8_tellsPlace : ∀ r ∈ tX8_tellsPlace, xchk1 cX8_tellsPlace r = true := xap uX8_tellsPlace_0 (uX8_tellsPlace_1)
def tX8_text_0 : List (List (Nat × Instr)) := [[(0, .iload_n 1), (1, .invokestatic 266), (4, .ifCond .ne 6), (7, .bipush (-2)), (9, .ireturn), (10, .aload_n 0), (11, .iconst 0), (12, .putfield 186), (15, .aload_n 0)], [(16, .iconst 0), (17, .putfield 218), (20, .aload_n 0), (21, .iconst 0), (22, .putfield 248), (25, .aload_n 0), (26, .invokevirtual 238), (29, .aload_n 0), (30, .invokevirtual 263)], [(33, .aload_n 0), (34, .getfield 218), (37, .ifCond .ne 14), (40, .aload_n 0), (41, .getfield 196), (44, .ifCond .eq 7), (47, .aload_n 0)], [(48, .invokevirtual 245), (51, .aload_n 0), (52, .iconst 0), (53, .putfield 183), (56, .aload_n 0), (57, .getfield 218), (60, .ifCond .eq 11), (63, .bipush (-100))], [(65, .aload_n 0), (66, .getfield 222), (69, .isub), (70, .ireturn), (71, .aload_n 0), (72, .getfield 13), (75, .iload_n 1), (76, .aload_n 0), (77, .getfield 248)], [(80, .iastore), (81, .iconst 0), (82, .istore_n 2), (83, .iload_n 2), (84, .aload_n 0), (85, .getfield 248), (88, .if_icmp .ge 128), (91, .bipush 24), (93, .iload_n 1), (94, .imul), (95, .iload_n 2)], [(96, .iadd), (97, .istore_n 3), (98, .aload_n 0), (99, .getfield 17), (102, .iload_n 3), (103, .aload_n 0), (104, .getfield 70), (107, .iload_n 2), (108, .iaload), (109, .iastore), (110, .aload_n 0), (111, .getfield 20)], [(114, .iload_n 3), (115, .aload_n 0), (116, .getfield 73), (119, .iload_n 2), (120, .iaload), (121, .iastore), (122, .aload_n 0), (123, .getfield 23), (126, .iload_n 3), (127, .aload_n 0)]]
theorem uX8_text_0 : ∀ r ∈ tX8_text_0, xchk1 cX8_text r = true := fun r hr => List.all_eq_true.mp (by decide +kernel : (tX8_text_0.all (fun r => xchk1 cX8_text r)) = true) r hr
def tX8_text_1 : List (List (Nat × Instr)) := [[(128, .getfield 76), (131, .iload_n 2), (132, .iaload), (133, .iastore), (134, .aload_n 0), (135, .getfield 26), (138, .iload_n 3), (139, .aload_n 0), (140, .getfield 79), (143, .iload_n 2)], [(144, .laload), (145, .lastore), (146, .aload_n 0), (147, .getfield 30), (150, .iload_n 3), (151, .aload_n 0), (152, .getfield 82), (155, .iload_n 2), (156, .laload), (157, .lastore), (158, .aload_n 0), (159, .getfield 33)], [(162, .iload_n 3), (163, .aload_n 0), (164, .getfield 85), (167, .iload_n 2), (168, .iaload), (169, .iastore), (170, .iconst 0), (171, .istore 4), (173, .iload 4), (175, .bipush 8)], [(177, .if_icmp .ge 33), (180, .aload_n 0), (181, .getfield 36), (184, .bipush 8), (186, .iload_n 3), (187, .imul), (188, .iload 4), (190, .iadd), (191, .aload_n 0)], [(192, .getfield 88), (195, .bipush 8), (197, .iload_n 2), (198, .imul), (199, .iload 4), (201, .iadd), (202, .laload), (203, .lastore), (204, .iinc 4 1), (207, .goto (-34))], [(210, .iinc 2 1), (213, .goto (-130)), (216, .aload_n 0), (217, .invokevirtual 269), (220, .aload_n 0), (221, .getfield 248)], [(224, .ireturn)]]
theorem uX8_text_1 : ∀ r ∈ tX8_text_1, xchk1 cX8_text r = true := fun r hr => List.all_eq_true.mp (by decide +kernel : (tX8_text_1.all (fun r => xchk1 cX8_text r)) = true) r hr
def tX8_text : List (List (Nat × Instr)) := tX8_text_0 ++ (tX8_text_1)
theorem uX8_text : ∀ r ∈ tX8_text, xchk1 cX8_text r = true := xap uX8_text_0 (uX8_text_1)
def tX8_there_0 : List (List (Nat × Instr)) := [[(0, .iload_n 1), (1, .invokestatic 266), (4, .ifCond .eq 15), (7, .iload_n 2), (8, .i2l), (9, .lconst 0), (10, .ldc2_w 373), (13, .invokestatic 177)], [(16, .ifCond .ne 6), (19, .bipush (-2)), (21, .ireturn), (22, .aload_n 0), (23, .getfield 13), (26, .iload_n 1), (27, .iaload), (28, .ifCond .ne 6), (31, .bipush (-3))], [(33, .ireturn), (34, .aload_n 0), (35, .aload_n 0), (36, .getfield 39), (39, .invokevirtual 375), (42, .aload_n 0), (43, .bipush 24), (45, .iload_n 1), (46, .imul), (47, .iload_n 2)], [(48, .invokevirtual 342), (51, .istore_n 3), (52, .aload_n 0), (53, .aload_n 0), (54, .getfield 326), (57, .putfield 378), (60, .iload_n 3), (61, .ireturn)]]
theorem uX8_there_0 : ∀ r ∈ tX8_there_0, xchk1 cX8_there r = true := fun r hr => List.all_eq_true.mp (by decide +kernel : (tX8_there_0.all (fun r => xchk1 cX8_there r)) = true) r hr
def tX8_there : List (List (Nat × Instr)) := tX8_there_0
theorem uX8_there : ∀ r ∈ tX8_there, xchk1 cX8_there r = true := uX8_there_0
def tX8_toldAll_0 : List (List (Nat × Instr)) := [[(0, .iconst 0), (1, .istore_n 2), (2, .iconst 0), (3, .istore_n 3), (4, .iload_n 3), (5, .bipush 8), (7, .if_icmp .ge 62), (10, .iconst 0), (11, .istore 4), (13, .iload 4), (15, .aload_n 0)], [(16, .getfield 13), (19, .iload_n 3), (20, .iaload), (21, .if_icmp .ge 42), (24, .iload_n 2), (25, .iload_n 1), (26, .ifCond .ne 18), (29, .aload_n 0), (30, .getfield 42)], [(33, .bipush 24), (35, .iload_n 3), (36, .imul), (37, .iload 4), (39, .iadd), (40, .iaload), (41, .goto 14), (44, .aload_n 0), (45, .bipush 24), (47, .iload_n 3)], [(48, .imul), (49, .iload 4), (51, .iadd), (52, .invokevirtual 279), (55, .iadd), (56, .istore_n 2), (57, .iinc 4 1), (60, .goto (-47)), (63, .iinc 3 1)], [(66, .goto (-62)), (69, .iload_n 2), (70, .ireturn)]]
theorem uX8_toldAll_0 : ∀ r ∈ tX8_toldAll_0, xchk1 cX8_toldAll r = true := fun r hr => List.all_eq_true.mp (by decide +kernel : (tX8_toldAll_0.all (fun r => xchk1 cX8_toldAll r)) = true) r hr
def tX8_toldAll : List (List (Nat × Instr)) := tX8_toldAll_0
theorem uX8_toldAll : ∀ r ∈ tX8_toldAll, xchk1 cX8_toldAll r = true := uX8_toldAll_0
def tX8_toldHeads_0 : List (List (Nat × Instr)) := [[(0, .iconst 0), (1, .istore_n 2), (2, .iconst 0), (3, .istore_n 3), (4, .iload_n 3), (5, .bipush 64), (7, .if_icmp .ge 31), (10, .iload_n 2), (11, .aload_n 0), (12, .getfield 58), (15, .bipush 64)], [(17, .iload_n 1), (18, .imul), (19, .iload_n 3), (20, .iadd), (21, .iaload), (22, .ifCond .ne 7), (25, .iconst 0), (26, .goto 4), (29, .iconst 1), (30, .iadd), (31, .istore_n 2)], [(32, .iinc 3 1), (35, .goto (-31)), (38, .iload_n 2), (39, .ireturn)]]
theorem uX8_toldHeads_0 : ∀ r ∈ tX8_toldHeads_0, xchk1 cX8_toldHeads r = true := fun r hr => List.all_eq_true.mp (by decide +kernel : (tX8_toldHeads_0.all (fun r => xchk1 cX8_toldHeads r)) = true) r hr
def tX8_toldHeads : List (List (Nat × Instr)) := tX8_toldHeads_0
theorem uX8_toldHeads : ∀ r ∈ tX8_toldHeads, xchk1 cX8_toldHeads r = true := uX8_toldHeads_0
def tX8_twist_0 : List (List (Nat × Instr)) := [[(0, .iload_n 1), (1, .invokestatic 266), (4, .ifCond .eq 17), (7, .iload_n 3), (8, .i2l), (9, .ldc2_w 287), (12, .ldc2_w 289), (15, .invokestatic 177)], [(18, .ifCond .ne 6), (21, .bipush (-2)), (23, .ireturn), (24, .aload_n 0), (25, .getfield 13), (28, .iload_n 1), (29, .iaload), (30, .ifCond .ne 6)], [(33, .bipush (-3)), (35, .ireturn), (36, .aload_n 0), (37, .iload_n 1), (38, .iload_n 2), (39, .invokevirtual 276), (42, .ifCond .ne 6), (45, .bipush (-12)), (47, .ireturn)], [(48, .bipush 24), (50, .iload_n 1), (51, .imul), (52, .iload_n 2), (53, .iadd), (54, .istore 4), (56, .aload_n 0), (57, .getfield 17), (60, .iload 4), (62, .iaload), (63, .invokestatic 282)], [(66, .ifCond .ne 6), (69, .bipush (-13)), (71, .ireturn), (72, .aload_n 0), (73, .getfield 17), (76, .iload 4), (78, .iaload), (79, .bipush 8)], [(81, .if_icmp .eq 15), (84, .aload_n 0), (85, .getfield 17), (88, .iload 4), (90, .iaload), (91, .bipush 9), (93, .if_icmp .ne 7)], [(96, .iload_n 3), (97, .ifCond .lt 27), (100, .aload_n 0), (101, .getfield 17), (104, .iload 4), (106, .iaload), (107, .bipush 13), (109, .if_icmp .ne 18)], [(112, .iload_n 3), (113, .i2l), (114, .lconst 1), (115, .ldc2_w 291), (118, .invokestatic 177), (121, .ifCond .ne 6), (124, .bipush (-2)), (126, .ireturn), (127, .aload_n 0)]]
theorem uX8_twist_0 : ∀ r ∈ tX8_twist_0, xchk1 cX8_twist r = true := fun r hr => List.all_eq_true.mp (by decide +kernel : (tX8_twist_0.all (fun r => xchk1 cX8_twist r)) = true) r hr
def tX8_twist_1 : List (List (Nat × Instr)) := [[(128, .getfield 26), (131, .iload 4), (133, .iload_n 3), (134, .i2l), (135, .lastore), (136, .aload_n 0), (137, .invokevirtual 269), (140, .iconst 1), (141, .ireturn)]]
theorem uX8_twist_1 : ∀ r ∈ tX8_twist_1, xchk1 cX8_twist r = true := fun r hr => List.all_eq_true.mp (by decide +kernel : (tX8_twist_1.all (fun r => xchk1 cX8_twist r)) = true) r hr
def tX8_twist : List (List (Nat × Instr)) := tX8_twist_0 ++ (tX8_twist_1)
theorem uX8_twist : ∀ r ∈ tX8_twist, xchk1 cX8_twist r = true := xap uX8_twist_0 (uX8_twist_1)
def tX8_untells_0 : List (List (Nat × Instr)) := [[(0, .iconst 0), (1, .istore_n 1), (2, .iload_n 1), (3, .sipush 192), (6, .if_icmp .ge 70), (9, .aload_n 0), (10, .getfield 42), (13, .iload_n 1), (14, .iconst 0), (15, .iastore)], [(16, .aload_n 0), (17, .getfield 45), (20, .iload_n 1), (21, .iconst 0), (22, .iastore), (23, .aload_n 0), (24, .getfield 48), (27, .iload_n 1), (28, .iconst 0), (29, .bastore), (30, .aload_n 0), (31, .getfield 52)], [(34, .iload_n 1), (35, .iconst 0), (36, .iastore), (37, .aload_n 0), (38, .getfield 55), (41, .iload_n 1), (42, .iconst 0), (43, .iastore), (44, .iconst 0), (45, .istore_n 2), (46, .iload_n 2), (47, .bipush 64)], [(49, .if_icmp .ge 21), (52, .aload_n 0), (53, .getfield 58), (56, .bipush 64), (58, .iload_n 1), (59, .imul), (60, .iload_n 2), (61, .iadd), (62, .iconst 0), (63, .iastore)], [(64, .iinc 2 1), (67, .goto (-21)), (70, .iinc 1 1), (73, .goto (-71)), (76, .return_)]]
theorem uX8_untells_0 : ∀ r ∈ tX8_untells_0, xchk1 cX8_untells r = true := fun r hr => List.all_eq_true.mp (by decide +kernel : (tX8_untells_0.all (fun r => xchk1 cX8_untells r)) = true) r hr
def tX8_untells : List (List (Nat × Instr)) := tX8_untells_0
theorem uX8_untells : ∀ r ∈ tX8_untells, xchk1 cX8_untells r = true := uX8_untells_0
def tX8_word_0 : List (List (Nat × Instr)) := [[(0, .aload_n 0), (1, .invokevirtual 304), (4, .aload_n 0), (5, .iload_n 1), (6, .invokevirtual 301), (9, .iload_n 2), (10, .ifCond .eq 8), (13, .aload_n 0), (14, .iload_n 2), (15, .invokevirtual 301)], [(18, .iload_n 3), (19, .ifCond .eq 8), (22, .aload_n 0), (23, .iload_n 3), (24, .invokevirtual 301), (27, .iload 4), (29, .ifCond .eq 9)], [(32, .aload_n 0), (33, .iload 4), (35, .invokevirtual 301), (38, .iload 5), (40, .ifCond .eq 9), (43, .aload_n 0), (44, .iload 5), (46, .invokevirtual 301)], [(49, .return_)]]
theorem uX8_word_0 : ∀ r ∈ tX8_word_0, xchk1 cX8_word r = true := fun r hr => List.all_eq_true.mp (by decide +kernel : (tX8_word_0.all (fun r => xchk1 cX8_word r)) = true) r hr
def tX8_word : List (List (Nat × Instr)) := tX8_word_0
theorem uX8_word : ∀ r ∈ tX8_word, xchk1 cX8_word r = true := uX8_word_0
end
section
/-! An evaluator of bytecode over plain heaps: cells are numbered from 0 in the order in which they come; '.ref i' is cell i; '.retAddr _' stands for the law's script. -/
abbrev xE : Type := (FieldType × vp_A) ⊕ (Nat × List Value)
abbrev xL : Type := List (Nat × Value)
abbrev xH : Type := List xE
/-- an answer, the heap behind it, how many cells and slots came -/
abbrev xR : Type := Option Value × xH × Nat × Nat
/-- a method: its name, its code, its locals, what it answers -/
abbrev xM : Type := MethodName × ByteArray × Nat × Option FieldType
/-- a program: instructions; fields read (class, place); fields written (class, place, type); calls (kind, method, how many values, class); classes made; constants; a class's first values; methods -/
abbrev xG : Type := (Nat → Nat → Option Instr) × (Nat → Nat → Option (Nat × Nat)) × (Nat → Nat → Option (Nat × Nat × FieldType)) × (Nat → Nat → Option (Nat × Nat × Nat × Nat)) × (Nat → Nat → Option Nat) × (Nat → Nat → Option Value) × (Nat → List Value) × (Nat → xM)
abbrev xIns (G : xG) : Nat → Nat → Option Instr := G.1
abbrev xFld (G : xG) : Nat → Nat → Option (Nat × Nat) := G.2.1
abbrev xPut (G : xG) : Nat → Nat → Option (Nat × Nat × FieldType) := G.2.2.1
abbrev xMth (G : xG) : Nat → Nat → Option (Nat × Nat × Nat × Nat) := G.2.2.2.1
abbrev xCls (G : xG) : Nat → Nat → Option Nat := G.2.2.2.2.1
abbrev xCon (G : xG) : Nat → Nat → Option Value := G.2.2.2.2.2.1
abbrev xDfl (G : xG) : Nat → List Value := G.2.2.2.2.2.2.1
abbrev xMet (G : xG) : Nat → xM := G.2.2.2.2.2.2.2
/-- the script: its length, its ints -/
abbrev xS : Type := Nat × (Nat → Int32)
def xst1 (L : xL) (i : Nat) (v : Value) : xL := (i, v) :: L.filter (fun q => !(q.1 == i) && !(q.1 + 1 == i && q.2.category == 2))
def xst2 (L : xL) (i : Nat) (v : Value) : xL := (i, v) :: L.filter (fun q => !(q.1 == i) && (!(q.1 == i + 1) && !(q.1 + 1 == i && q.2.category == 2)))
/-- the operand stack alone -/
def xs1 (i : Instr) (st : List Value) : Option (List Value) := match i, st with
  | .iadd, .int y :: .int x :: r => some (.int (x + y) :: r)
  | .isub, .int y :: .int x :: r => some (.int (x - y) :: r)
  | .imul, .int y :: .int x :: r => some (.int (x * y) :: r)
  | .idiv, .int y :: .int x :: r => if y = 0 then none else some (.int (x / y) :: r)
  | .irem, .int y :: .int x :: r => if y = 0 then none else some (.int (x - x / y * y) :: r)
  | .ineg, .int x :: r => some (.int (-x) :: r)
  | .iand, .int y :: .int x :: r => some (.int (x &&& y) :: r)
  | .ior, .int y :: .int x :: r => some (.int (x ||| y) :: r)
  | .ixor, .int y :: .int x :: r => some (.int (x ^^^ y) :: r)
  | .ishl, .int y :: .int x :: r => some (.int (x <<< (y &&& 31)) :: r)
  | .ishr, .int y :: .int x :: r => some (.int (x >>> (y &&& 31)) :: r)
  | .iushr, .int y :: .int x :: r => some (.int (x.toUInt32 >>> (y.toUInt32 &&& Int32.toUInt32 31)).toInt32 :: r)
  | .ladd, .long y :: .long x :: r => some (.long (x + y) :: r)
  | .lsub, .long y :: .long x :: r => some (.long (x - y) :: r)
  | .lmul, .long y :: .long x :: r => some (.long (x * y) :: r)
  | .ldiv, .long y :: .long x :: r => if y = 0 then none else some (.long (x / y) :: r)
  | .lrem, .long y :: .long x :: r => if y = 0 then none else some (.long (x - x / y * y) :: r)
  | .lneg, .long x :: r => some (.long (-x) :: r)
  | .land, .long y :: .long x :: r => some (.long (x &&& y) :: r)
  | .lor, .long y :: .long x :: r => some (.long (x ||| y) :: r)
  | .lxor, .long y :: .long x :: r => some (.long (x ^^^ y) :: r)
  | .lshl, .int y :: .long x :: r => some (.long (x <<< (y.toInt64 &&& 63)) :: r)
  | .lshr, .int y :: .long x :: r => some (.long (x >>> (y.toInt64 &&& 63)) :: r)
  | .lushr, .int y :: .long x :: r => some (.long (x.toUInt64 >>> (y.toInt64.toUInt64 &&& Int64.toUInt64 63)).toInt64 :: r)
  | .lcmp, .long y :: .long x :: r => some (.int (lg_cmp x y) :: r)
  | .i2l, .int x :: r => some (.long x.toInt64 :: r)
  | .l2i, .long x :: r => some (.int x.toInt32 :: r)
  | .i2b, .int x :: r => some (.int x.toInt8.toInt32 :: r)
  | .i2s, .int x :: r => some (.int x.toInt16.toInt32 :: r)
  | .i2c, .int x :: r => some (.int (x.toUInt32 % 65536).toInt32 :: r)
  | _, _ => none
def xs1d (i : Instr) (st : List Value) : Option (List Value) := match i, st with
  | .dup, u :: r => if u.category = 1 then some (u :: u :: r) else none
  | .pop, u :: r => if u.category = 1 then some r else none
  | .pop2, u :: r => if u.category = 2 then some r else none
  | .dup_x1, u :: w :: r => if u.category = 1 ∧ w.category = 1 then some (u :: w :: u :: r) else none
  | .dup_x2, u :: w :: z :: r => if u.category = 1 ∧ w.category = 1 ∧ z.category = 1 then some (u :: w :: z :: u :: r) else none
  | .dup2, u :: w :: r => if u.category = 2 then some (u :: u :: w :: r) else if w.category = 1 then some (u :: w :: u :: w :: r) else none
  | .dup2, [u] => if u.category = 2 then some [u, u] else none
  | .dup2_x1, u :: w :: r => if u.category = 2 ∧ w.category = 1 then some (u :: w :: u :: r) else none
  | .dup2_x2, u :: w :: z :: r => if u.category = 2 ∧ w.category = 1 ∧ z.category = 1 then some (u :: w :: z :: u :: r) else none
  | _, _ => none
/-- constants and locals -/
def xs2 (con : Nat → Option Value) (nL : Nat) (i : Instr) (L : xL) (st : List Value) : Option (xL × List Value) := match i with
  | .iconst n => some (L, .int (Int32.ofInt n) :: st)
  | .bipush n => some (L, .int (Int8.ofInt n).toInt32 :: st)
  | .sipush n => some (L, .int (Int16.ofInt n).toInt32 :: st)
  | .lconst n => some (L, .long (Int64.ofNat (n : Nat)) :: st)
  | .aconst_null => some (L, .null :: st)
  | .ldc k => match con k with
    | some (.int v) => some (L, .int v :: st)
    | _ => none
  | .ldc2_w k => match con k with
    | some (.long v) => some (L, .long v :: st)
    | _ => none
  | .iload k => match L.lookup k with
    | some (.int x) => some (L, .int x :: st)
    | _ => none
  | .iload_n k => match L.lookup k.val with
    | some (.int x) => some (L, .int x :: st)
    | _ => none
  | .lload k => match L.lookup k with
    | some (.long x) => some (L, .long x :: st)
    | _ => none
  | .lload_n k => match L.lookup k.val with
    | some (.long x) => some (L, .long x :: st)
    | _ => none
  | .aload k => match L.lookup k with
    | some (.ref x) => some (L, .ref x :: st)
    | some (.retAddr x) => some (L, .retAddr x :: st)
    | some .null => some (L, .null :: st)
    | _ => none
  | .aload_n k => match L.lookup k.val with
    | some (.ref x) => some (L, .ref x :: st)
    | some (.retAddr x) => some (L, .retAddr x :: st)
    | some .null => some (L, .null :: st)
    | _ => none
  | .istore k => match st with
    | .int x :: r => if k < nL then some (xst1 L k (.int x), r) else none
    | _ => none
  | .istore_n k => match st with
    | .int x :: r => if k.val < nL then some (xst1 L k.val (.int x), r) else none
    | _ => none
  | .lstore k => match st with
    | .long x :: r => if k + 1 < nL then some (xst2 L k (.long x), r) else none
    | _ => none
  | .lstore_n k => match st with
    | .long x :: r => if k.val + 1 < nL then some (xst2 L k.val (.long x), r) else none
    | _ => none
  | .astore k => match st with
    | .ref x :: r => if k < nL then some (xst1 L k (.ref x), r) else none
    | _ => none
  | .astore_n k => match st with
    | .ref x :: r => if k.val < nL then some (xst1 L k.val (.ref x), r) else none
    | _ => none
  | .iinc k n => match L.lookup k with
    | some (.int x) => if k < nL then some (xst1 L k (.int (x + Int32.ofInt n)), st) else none
    | _ => none
  | _ => none
def xjmp (pc : Nat) (off : Int) : Option Nat := if 0 ≤ (pc : Int) + off then some ((pc : Int) + off).toNat else none
def xcond (q : ClassFile.Cond) (x y : Int32) : Bool := match q with
  | .eq => decide (x = y)
  | .ne => decide (¬ x = y)
  | .lt => decide (x < y)
  | .ge => decide (y ≤ x)
  | .gt => decide (y < x)
  | .le => decide (x ≤ y)
/-- jumps -/
def xs3 (pc : Nat) (i : Instr) (st : List Value) : Option (Nat × List Value) := match i, st with
  | .goto off, r => (xjmp pc off).map (fun t => (t, r))
  | .ifCond q off, .int x :: r => match xjmp pc off with
    | some t => if xcond q x 0 = true then some (t, r) else some (pc + 3, r)
    | none => none
  | .if_icmp q off, .int y :: .int x :: r => match xjmp pc off with
    | some t => if xcond q x y = true then some (t, r) else some (pc + 3, r)
    | none => none
  | .tableswitch d lo hi offs, .int x :: r => if x.toInt < lo ∨ hi < x.toInt then (xjmp pc d).map (fun t => (t, r)) else match offs[(x.toInt - lo).toNat]? with
    | some off => (xjmp pc off).map (fun t => (t, r))
    | none => none
  | .lookupswitch d ps, .int x :: r => if (ps.toList.zip (ps.toList.drop 1)).all (fun (a, next) => a.1 < next.1) = true then (xjmp pc (Op.lookupswitch.offset ps.toList d x.toInt)).map (fun t => (t, r)) else none
  | _, _ => none
def xprim : FieldType → Bool
  | .int | .long | .byte | .boolean => true
  | _ => false
/-- the heap, nothing new -/
def xs4 (fld : Nat → Option (Nat × Nat)) (put : Nat → Option (Nat × Nat × FieldType)) (sc : xS) (i : Instr) (st : List Value) (h : xH) : Option (List Value × xH) := match i, st with
  | .getfield k, .ref a :: r => match fld k, h[a]? with
    | some (ci, j), some (.inr (cj, fs)) => if ci = cj then match fs[j]? with
      | some v => some (v :: r, h)
      | none => none else none
    | _, _ => none
  | .putfield k, v :: .ref a :: r => match put k, h[a]? with
    | some (ci, j, ty), some (.inr (cj, fs)) => if ci = cj ∧ j < fs.length ∧ narrow ty v = v ∧ fits ty v = true then some (r, h.set a (.inr (cj, fs.set j v))) else none
    | _, _ => none
  | .arraylength, .ref a :: r => match h[a]? with
    | some (.inl (ty, x)) => if xprim ty = true then some (.int (Int32.ofNat x.1) :: r, h) else none
    | _ => none
  | .arraylength, .retAddr _ :: r => some (.int (Int32.ofNat sc.1) :: r, h)
  | .iaload, .int j :: .ref a :: r => match h[a]? with
    | some (.inl (.int, n, .inl f)) => if j < 0 ∨ n ≤ j.toNatClampNeg then none else some (.int (f j.toNatClampNeg) :: r, h)
    | _ => none
  | .iaload, .int j :: .retAddr _ :: r => if j < 0 ∨ sc.1 ≤ j.toNatClampNeg then none else some (.int (sc.2 j.toNatClampNeg) :: r, h)
  | .laload, .int j :: .ref a :: r => match h[a]? with
    | some (.inl (.long, n, .inr (.inl f))) => if j < 0 ∨ n ≤ j.toNatClampNeg then none else some (.long (f j.toNatClampNeg) :: r, h)
    | _ => none
  | .baload, .int j :: .ref a :: r => match h[a]? with
    | some (.inl (.byte, n, .inl f)) => if j < 0 ∨ n ≤ j.toNatClampNeg then none else some (.int (f j.toNatClampNeg) :: r, h)
    | some (.inl (.boolean, n, .inl f)) => if j < 0 ∨ n ≤ j.toNatClampNeg then none else some (.int (f j.toNatClampNeg) :: r, h)
    | _ => none
  | .iastore, .int x :: .int j :: .ref a :: r => match h[a]? with
    | some (.inl (.int, n, .inl f)) => if j < 0 ∨ n ≤ j.toNatClampNeg then none else some (r, h.set a (.inl (.int, n, .inl (upd f j.toNatClampNeg x))))
    | _ => none
  | .lastore, .long x :: .int j :: .ref a :: r => match h[a]? with
    | some (.inl (.long, n, .inr (.inl f))) => if j < 0 ∨ n ≤ j.toNatClampNeg then none else some (r, h.set a (.inl (.long, n, .inr (.inl (vp_updL f j.toNatClampNeg x)))))
    | _ => none
  | .bastore, .int x :: .int j :: .ref a :: r => match h[a]? with
    | some (.inl (.byte, n, .inl f)) => if j < 0 ∨ n ≤ j.toNatClampNeg then none else some (r, h.set a (.inl (.byte, n, .inl (upd f j.toNatClampNeg x.toInt8.toInt32))))
    | some (.inl (.boolean, n, .inl f)) => if j < 0 ∨ n ≤ j.toNatClampNeg then none else some (r, h.set a (.inl (.boolean, n, .inl (upd f j.toNatClampNeg (x &&& 1)))))
    | _ => none
  | _, _ => none
/-- may a method that answers ty end so? -/
def xret (i : Instr) (ty : Option FieldType) (v : Option Value) : Bool := match i, ty, v with
  | .return_, none, none => true
  | .ireturn, some ty, some (.int x) => decide (narrow ty (.int x) = .int x)
  | .lreturn, some .long, some (.long _) => true
  | _, _, _ => false
/-- a new array -/
def xnew (t : ArrayType) (n : Nat) : Option xE := match t with
  | .int => some (.inl (.int, n, .inl (fun _ => 0)))
  | .long => some (.inl (.long, n, .inr (.inl (fun _ => 0))))
  | .byte => some (.inl (.byte, n, .inl (fun _ => 0)))
  | .boolean => some (.inl (.boolean, n, .inl (fun _ => 0)))
  | _ => none
def xadd (k n : Nat) (r : Option xR) : Option xR := match r with
  | some (v, h, a, b) => some (v, h, k + a, n + b)
  | none => none
/-- which sort an instruction is: 1 stack, 2 dups, 3 locals, 4 jumps, 5 heap, 6 ends, 7 new, 8 newarray, 9 calls -/
def xsort : Instr → Nat
  | .dup | .pop | .pop2 | .dup_x1 | .dup_x2 | .dup2 | .dup2_x1 | .dup2_x2 => 2
  | .iconst _ | .bipush _ | .sipush _ | .lconst _ | .aconst_null | .ldc _ | .ldc2_w _ | .iload _ | .iload_n _ | .lload _ | .lload_n _ | .aload _ | .aload_n _ | .istore _ | .istore_n _ | .lstore _ | .lstore_n _ | .astore _ | .astore_n _ | .iinc _ _ => 3
  | .goto _ | .ifCond _ _ | .if_icmp _ _ | .tableswitch _ _ _ _ | .lookupswitch _ _ => 4
  | .getfield _ | .putfield _ | .arraylength | .iaload | .laload | .baload | .iastore | .lastore | .bastore => 5
  | .return_ | .ireturn | .lreturn => 6
  | .new _ => 7
  | .newarray _ => 8
  | .invokevirtual _ | .invokespecial _ | .invokestatic _ => 9
  | _ => 1
/-- arrays copied: kind 7 -/
def xcopy (st : List Value) (h : xH) : Option (List Value × xH) := match st with
  | .int n :: .int dp :: .ref a1 :: .int sp :: .ref a0 :: r => if n < 0 ∨ dp < 0 ∨ sp < 0 ∨ 8 < (r.map (fun v => v.category)).sum then none else match h[a0]?, h[a1]? with
    | some (.inl (.int, n0, .inl f)), some (.inl (.int, n1, .inl g)) => if sp.toNatClampNeg + n.toNatClampNeg ≤ n0 ∧ dp.toNatClampNeg + n.toNatClampNeg ≤ n1 then some (r, h.set a1 (.inl (.int, n1, .inl (va_cpy f g sp.toNatClampNeg dp.toNatClampNeg n.toNatClampNeg)))) else none
    | some (.inl (.long, n0, .inr (.inl f))), some (.inl (.long, n1, .inr (.inl g))) => if sp.toNatClampNeg + n.toNatClampNeg ≤ n0 ∧ dp.toNatClampNeg + n.toNatClampNeg ≤ n1 then some (r, h.set a1 (.inl (.long, n1, .inr (.inl (va_cpy f g sp.toNatClampNeg dp.toNatClampNeg n.toNatClampNeg))))) else none
    | some (.inl (.byte, n0, .inl f)), some (.inl (.byte, n1, .inl g)) => if (sp.toNatClampNeg + n.toNatClampNeg ≤ n0 ∧ dp.toNatClampNeg + n.toNatClampNeg ≤ n1) ∧ (List.range n.toNatClampNeg).all (fun i => fits .byte (.int (f (sp.toNatClampNeg + i)))) = true then some (r, h.set a1 (.inl (.byte, n1, .inl (va_cpy f g sp.toNatClampNeg dp.toNatClampNeg n.toNatClampNeg)))) else none
    | _, _ => none
  | _ => none
/-- are the values as that kind of call wants them? -/
def xhead (kind ci : Nat) (as : List Value) (h : xH) : Bool := match kind, as with
  | 0, .ref a :: _ => match h[a]? with
    | some (.inr (cj, _)) => ci == cj
    | _ => false
  | 1, _ => true
  | 4, .ref _ :: _ => true
  | 5, .ref _ :: _ => true
  | _, _ => false
/-- calls: 0 virtual, 1 static, 4 a constructor, 5 a nest mate's, 6 Object's, 7 arraycopy, 8 Math.max -/
def xlink (mth : Nat → Option (Nat × Nat × Nat × Nat)) (i : Instr) : Option (Nat × Nat × Nat × Nat) := match i with
  | .invokevirtual k => match mth k with
    | some (0, r) => some (0, r)
    | _ => none
  | .invokestatic k => match mth k with
    | some (1, r) => some (1, r)
    | some (7, r) => some (7, r)
    | some (8, r) => some (8, r)
    | _ => none
  | .invokespecial k => match mth k with
    | some (4, r) => some (4, r)
    | some (5, r) => some (5, r)
    | some (6, r) => some (6, r)
    | _ => none
  | _ => none
/-- THE EVALUATOR: at most n steps in a row, d calls deep; method M at pc with locals L, stack st, heap h -/
def xev (G : xG) (sc : xS) : Nat → Nat → Nat → Nat → xL → List Value → xH → Option xR
  | 0, _, _, _, _, _, _ => none
  | n + 1, d, M, pc, L, st, h => match xIns G M pc with
    | none => none
    | some i => match xsort i with
      | 1 => match xs1 i st with
        | some st' => xev G sc n d M (pc + 1) L st' h
        | none => none
      | 2 => match xs1d i st with
        | some st' => xev G sc n d M (pc + 1) L st' h
        | none => none
      | 3 => match xs2 (xCon G M) (xMet G M).2.2.1 i L st with
        | some (L', st') => xev G sc n d M (pc + xlen i) L' st' h
        | none => none
      | 4 => match xs3 pc i st with
        | some (pc', st') => xev G sc n d M pc' L st' h
        | none => none
      | 5 => match xs4 (xFld G M) (xPut G M) sc i st h with
        | some (st', h') => xev G sc n d M (pc + xlen i) L st' h'
        | none => none
      | 6 => match st with
        | [] => if xret i (xMet G M).2.2.2 none = true then some (none, h, 0, 0) else none
        | [v] => if xret i (xMet G M).2.2.2 (some v) = true then some (some v, h, 0, 0) else none
        | _ => none
      | 7 => match i with
        | .new k => match xCls G M k with
          | some ci => xadd 1 (xDfl G ci).length (xev G sc n d M (pc + 3) L (.ref h.length :: st) (h ++ [.inr (ci, xDfl G ci)]))
          | none => none
        | _ => none
      | 8 => match i, st with
        | .newarray t, .int k :: r => if k < 0 ∨ 1000000 < k.toNatClampNeg then none else match xnew t k.toNatClampNeg with
          | some c => xadd 1 k.toNatClampNeg (xev G sc n d M (pc + 2) L (.ref h.length :: r) (h ++ [c]))
          | none => none
        | _, _ => none
      | 9 => match d, xlink (xMth G M) i with
        | d' + 1, some (kind, N, k, ci) => match kind with
          | 6 => match st with
            | .ref _ :: r => if 8 < (r.map (fun v => v.category)).sum then none else xev G sc n (d' + 1) M (pc + 3) L r h
            | _ => none
          | 7 => match xcopy st h with
            | some (st', h') => xev G sc n (d' + 1) M (pc + 3) L st' h'
            | none => none
          | 8 => match st with
            | .int y :: .int x :: r => if 8 < (r.map (fun v => v.category)).sum then none else xev G sc n (d' + 1) M (pc + 3) L (.int (if x < y then y else x) :: r) h
            | _ => none
          | _ => if st.length < k ∨ 8 < ((st.drop k).map (fun v => v.category)).sum ∨ (xMet G N).2.2.1 < (lg_sl (st.take k).reverse).length ∨ xhead kind ci (st.take k).reverse h = false then none else match xev G sc n d' N 0 (lv_args 0 (st.take k).reverse) [] h with
            | some (v, h', a, b) => xadd a b (xev G sc n (d' + 1) M (pc + 3) L (v.toList ++ st.drop k) h')
            | none => none
        | _, _ => none
      | _ => none
end
section
/-! How the evaluator's heaps and values lie in the machine's: cell i is at base + i, the script at b. -/
def xv (base b : Nat) : Value → Value
  | .ref i => .ref (base + i)
  | .retAddr _ => .ref b
  | v => v
abbrev xq (base b : Nat) : Nat × Value → Nat × Value := fun q => (q.1, xv base b q.2)
def xc (dA : FieldType → ClassId) (base b : Nat) : xE → va_E
  | .inl (ty, x) => .inl (dA ty, x)
  | .inr (ci, fs) => .inr (ci, fs.map (xv base b))
def xw (dA : FieldType → ClassId) (base b : Nat) (h : xH) : va_W := h.mapIdx (fun i c => (base + i, xc dA base b c))
def xtys (dA : FieldType → ClassId) : List (ClassId × FieldType) := [(dA .int, .int), (dA .long, .long), (dA .byte, .byte), (dA .boolean, .boolean)]
def xW (D : va_G) (cl : List vw_C) (dA : FieldType → ClassId) (base b : Nat) (h : xH) (H : Heap) : Prop := H.size = base + h.length ∧ va_P D cl (xw dA base b h) H
theorem xv_cat (base b : Nat) (v : Value) : (xv base b v).category = v.category := by cases v <;> rfl
theorem xw_at (dA : FieldType → ClassId) (base b : Nat) {h : xH} {a : Nat} {c : xE} (hc : h[a]? = some c) : (xw dA base b h)[a]? = some (base + a, xc dA base b c) := by
  simp [xw, List.getElem?_mapIdx, hc]
theorem xw_set (dA : FieldType → ClassId) (base b : Nat) (h : xH) (a : Nat) (c : xE) : xw dA base b (h.set a c) = (xw dA base b h).set a (base + a, xc dA base b c) := by
  apply List.ext_getElem?
  intro i
  by_cases hi : i = a
  · subst hi
    by_cases hl : i < h.length
    · simp [xw, List.getElem?_mapIdx, List.getElem?_set_self, hl]
    · simp [xw, List.getElem?_mapIdx, hl]
  · simp [xw, List.getElem?_mapIdx, List.getElem?_set_ne (Ne.symm hi)]
theorem xw_push (dA : FieldType → ClassId) (base b : Nat) (h : xH) (c : xE) : xw dA base b (h ++ [c]) = xw dA base b h ++ [(base + h.length, xc dA base b c)] := by
  simp [xw, List.mapIdx_append]
theorem xw_len (dA : FieldType → ClassId) (base b : Nat) (h : xH) : (xw dA base b h).length = h.length := by simp [xw]
theorem xw_D (dA : FieldType → ClassId) (base b : Nat) (h : xH) : va_D (fun q => base ≤ q) (xw dA base b h) := by
  refine ⟨fun i j x y hi hj hxy => ?_, fun k q hk => ?_⟩
  · simp only [xw, List.getElem?_mapIdx] at hi hj
    cases h1 : h[i]? with
    | none => rw [h1] at hi; cases hi
    | some c1 =>
      cases h2 : h[j]? with
      | none => rw [h2] at hj; cases hj
      | some c2 =>
        rw [h1] at hi; rw [h2] at hj
        cases hi; cases hj
        have : base + i = base + j := hxy
        omega
  · simp only [xw, List.getElem?_mapIdx] at hk
    cases h1 : h[k]? with
    | none => rw [h1] at hk; cases hk
    | some c1 =>
      rw [h1] at hk; cases hk
      exact Nat.le_add_right _ _
theorem xst1_map (base b : Nat) (L : xL) (i : Nat) (v : Value) : (xst1 L i v).map (xq base b) = (i, xv base b v) :: (L.map (xq base b)).filter (fun q => !(q.1 == i) && !(q.1 + 1 == i && q.2.category == 2)) := by
  simp only [xst1, List.map_cons, List.filter_map]
  congr 2
  apply List.filter_congr
  intro q _
  simp only [Function.comp, xq, xv_cat]
theorem xst2_map (base b : Nat) (L : xL) (i : Nat) (v : Value) : (xst2 L i v).map (xq base b) = (i, xv base b v) :: (L.map (xq base b)).filter (fun q => !(q.1 == i) && (!(q.1 == i + 1) && !(q.1 + 1 == i && q.2.category == 2))) := by
  simp only [xst2, List.map_cons, List.filter_map]
  congr 2
  apply List.filter_congr
  intro q _
  simp only [Function.comp, xq, xv_cat]
theorem x_lookm {L : xL} {i : Nat} {v : Value} (h : L.lookup i = some v) : (i, v) ∈ L := by
  induction L with
  | nil => cases h
  | cons q r ih =>
    obtain ⟨j, w⟩ := q
    rw [List.lookup_cons] at h
    by_cases hj : (i == j) = true
    · rw [hj] at h
      cases h
      rw [beq_iff_eq.mp hj]
      exact List.mem_cons_self
    · have hj' : (i == j) = false := by simpa using hj
      rw [hj'] at h
      exact List.mem_cons_of_mem _ (ih h)
theorem x_look {base b nL : Nat} {ls : Array Slot} {L : xL} {i : Nat} {v : Value} (hl : lv_has ls nL (L.map (xq base b))) (h : L.lookup i = some v) : ls[i]? = some (.val (xv base b v)) :=
  hl.2.2 (i, xv base b v) (List.mem_map.mpr ⟨(i, v), x_lookm h, rfl⟩)
theorem x_lookn {base b : Nat} {L : xL} {i : Nat} {v : Value} (h : L.lookup i = some v) : ∃ k : Nat, (L.map (xq base b))[k]? = some (i, xv base b v) := by
  obtain ⟨k, hk⟩ := List.getElem?_of_mem (x_lookm h)
  exact ⟨k, by rw [List.getElem?_map, hk]; rfl⟩
theorem x_args (base b : Nat) : ∀ (vs : List Value) (i : Nat), lv_args i (vs.map (xv base b)) = (lv_args i vs).map (xq base b)
  | [], _ => rfl
  | v :: vs, i => by
    simp only [List.map_cons, lv_args, xv_cat]
    rw [x_args base b vs]
theorem x_sl (base b : Nat) (vs : List Value) : (lg_sl (vs.map (xv base b))).length = (lg_sl vs).length := by
  induction vs with
  | nil => rfl
  | cons v t ih =>
    simp only [lg_sl, List.map_cons, List.flatMap_cons, List.length_append, xv_cat] at ih ⊢
    rw [ih]
    by_cases h : v.category = 2 <;> simp [h]
theorem x_fit (base b : Nat) {ty : FieldType} {v : Value} (h : fits ty v = true) : fits ty (xv base b v) = true := by
  cases v <;> first | exact h | (cases ty <;> first | rfl | cases h)
theorem x_nar (base b : Nat) {ty : FieldType} {v : Value} (hf : fits ty v = true) (h : narrow ty v = v) : narrow ty (xv base b v) = xv base b v := by
  cases v <;> first | exact h | (cases ty <;> first | rfl | cases hf)
theorem x_jmp {pc t : Nat} {off : Int} (h : xjmp pc off = some t) : (pc : Int) + off = (t : Int) := by
  unfold xjmp at h
  split at h
  · cases h; omega
  · cases h
end
section
section XS
variable {p : Program} {l : Launch} {e : Env} {R : Room} {s : State} {m : MethodId} {args : Array Value} {below : List Frame} {meth : Method} {c : Code} {H : Heap} {locs : List Loc} {cells slots : Nat} {Q : State → Prop}
variable {cc : ByteArray} {pc : Nat} {ls : Array Slot} {base b : Nat}
set_option maxHeartbeats 4000000 in
theorem xs1_ok (hx : p.tables.exec = Jvm.exec) (hb : c.code = cc) {i : Instr} {st st' : List Value} (hd : decode cc pc = .ok (i, 1)) (h : xs1 i st = some st') (k : W p l e R s m args below meth c H locs cells slots Q (F0 m (pc + 1) ls (st'.map (xv base b)))) : W p l e R s m args below meth c H locs cells slots Q (F0 m pc ls (st.map (xv base b))) := by
  unfold xs1 at h
  split at h
  · cases h; exact lv_iadd hx hb hd k
  · cases h; exact lv_isub hx hb hd k
  · cases h; exact lv_imul hx hb hd k
  · split at h
    · cases h
    · rename_i hne; cases h; exact lv_idiv hx hb hd hne k
  · split at h
    · cases h
    · rename_i hne; cases h; exact lv_irem hx hb hd hne k
  · cases h; exact lv_ineg hx hb hd k
  · cases h; exact lv_iand hx hb hd k
  · cases h; exact lv_ior hx hb hd k
  · cases h; exact lv_ixor hx hb hd k
  · cases h; exact lv_ishl hx hb hd k
  · cases h; exact lv_ishr hx hb hd k
  · cases h; exact lv_iushr hx hb hd rfl k
  · cases h; exact lv_ladd hx hb hd k
  · cases h; exact lv_lsub hx hb hd k
  · cases h; exact lv_lmul hx hb hd k
  · split at h
    · cases h
    · rename_i hne; cases h; exact lv_ldiv hx hb hd hne k
  · split at h
    · cases h
    · rename_i hne; cases h; exact lv_lrem hx hb hd hne k
  · cases h; exact lv_lneg hx hb hd k
  · cases h; exact lv_land hx hb hd k
  · cases h; exact lv_lor hx hb hd k
  · cases h; exact lv_lxor hx hb hd k
  · cases h; exact lv_lshl hx hb hd rfl k
  · cases h; exact lv_lshr hx hb hd rfl k
  · cases h; exact lv_lushr hx hb hd rfl k
  · cases h; exact W.lcmp hx hb hd k
  · cases h; exact lv_i2l hx hb hd rfl k
  · cases h; exact lv_l2i hx hb hd rfl k
  · cases h; exact lv_i2b hx hb hd rfl k
  · cases h; exact lv_i2s hx hb hd rfl k
  · cases h; exact lv_i2c hx hb hd rfl k
  · cases h
set_option maxHeartbeats 4000000 in
theorem xs1d_ok (hx : p.tables.exec = Jvm.exec) (hb : c.code = cc) {i : Instr} {st st' : List Value} (hd : decode cc pc = .ok (i, 1)) (h : xs1d i st = some st') (k : W p l e R s m args below meth c H locs cells slots Q (F0 m (pc + 1) ls (st'.map (xv base b)))) : W p l e R s m args below meth c H locs cells slots Q (F0 m pc ls (st.map (xv base b))) := by
  have cat : ∀ v : Value, (xv base b v).category = v.category := xv_cat base b
  unfold xs1d at h
  split at h
  · split at h
    · rename_i q; cases h; exact lv_dup hx hb hd (by rw [cat]; exact q) k
    · cases h
  · split at h
    · rename_i q; cases h; exact lv_pop hx hb hd (by rw [cat]; exact q) k
    · cases h
  · split at h
    · rename_i q; cases h; exact lv_pop2_2 hx hb hd (by rw [cat]; exact q) k
    · cases h
  · split at h
    · rename_i q; cases h; exact lv_dup_x1 hx hb hd (by rw [cat]; exact q.1) (by rw [cat]; exact q.2) k
    · cases h
  · split at h
    · rename_i q; cases h; exact lv_dup_x2 hx hb hd (by rw [cat]; exact q.1) (by rw [cat]; exact q.2.1) (by rw [cat]; exact q.2.2) k
    · cases h
  · split at h
    · rename_i q; cases h; exact lv_dup2_2 hx hb hd (by rw [cat]; exact q) k
    · split at h
      · rename_i u w r q q2
        cases h
        have q1 : u.category = 1 := by rcases lv_cat u with z | z; exact z; exact absurd z q
        exact lv_dup2_11 hx hb hd (by rw [cat]; exact q1) (by rw [cat]; exact q2) k
      · cases h
  · split at h
    · rename_i q; cases h; exact lv_dup2_2 hx hb hd (by rw [cat]; exact q) k
    · cases h
  · split at h
    · rename_i q; cases h; exact lv_dup2_x1_2 hx hb hd (by rw [cat]; exact q.1) (by rw [cat]; exact q.2) k
    · cases h
  · split at h
    · rename_i q; cases h; exact lv_dup2_x2_2 hx hb hd (by rw [cat]; exact q.1) (by rw [cat]; exact q.2.1) (by rw [cat]; exact q.2.2) k
    · cases h
  · cases h
set_option maxHeartbeats 4000000 in
theorem xs2_ok (hx : p.tables.exec = Jvm.exec) (hb : c.code = cc) {own : String} (hown : s.vm.findClass own = some m.cls) {con : Nat → Option Value} (hc1 : ∀ k v, con k = some (.int v) → (Jvm.Cond.constant own k v).before args s = true) (hc2 : ∀ k v, con k = some (.long v) → (Jvm.Cond.constantLong own k v).before args s = true)
    {nL : Nat} {i : Instr} {L L' : xL} {st st' : List Value} (hd : decode cc pc = .ok (i, xlen i)) (hl : lv_has ls nL (L.map (xq base b))) (h : xs2 con nL i L st = some (L', st')) (k : ∀ ls' : Array Slot, lv_has ls' nL (L'.map (xq base b)) → W p l e R s m args below meth c H locs cells slots Q (F0 m (pc + xlen i) ls' (st'.map (xv base b)))) : W p l e R s m args below meth c H locs cells slots Q (F0 m pc ls (st.map (xv base b))) := by
  unfold xs2 at h
  split at h
  · cases h; exact lv_iconst hx hb hd rfl (k ls hl)
  · cases h; exact lv_bipush hx hb hd rfl (k ls hl)
  · cases h; exact lv_sipush hx hb hd rfl (k ls hl)
  · cases h; exact lv_lconst hx hb hd rfl (k ls hl)
  · cases h; exact lv_null hx hb hd (k ls hl)
  · split at h
    · rename_i q; cases h; exact lv_ldc hx hb hown (hc1 _ _ q) hd (k ls hl)
    · cases h
  · split at h
    · rename_i q; cases h; exact lv_ldc2 hx hb hown (hc2 _ _ q) hd (k ls hl)
    · cases h
  · split at h
    · rename_i q; cases h; exact lv_iload hx hb hd (x_look hl q) (k ls hl)
    · cases h
  · split at h
    · rename_i q; cases h; exact lv_iload_n hx hb hd rfl (x_look hl q) (k ls hl)
    · cases h
  · split at h
    · rename_i q; cases h; exact lv_lload hx hb hd (x_look hl q) (k ls hl)
    · cases h
  · split at h
    · rename_i q; cases h; exact lv_lload_n hx hb hd rfl (x_look hl q) (k ls hl)
    · cases h
  · split at h
    · rename_i q; cases h; exact lv_aload hx hb hd (x_look hl q) (k ls hl)
    · rename_i q; cases h; exact lv_aload hx hb hd (x_look hl q) (k ls hl)
    · rename_i q; cases h; exact lv_aloadN hx hb hd (x_look hl q) (k ls hl)
    · cases h
  · split at h
    · rename_i q; cases h; exact lv_aload_n hx hb hd rfl (x_look hl q) (k ls hl)
    · rename_i q; cases h; exact lv_aload_n hx hb hd rfl (x_look hl q) (k ls hl)
    · rename_i q; cases h; exact lv_aload_nN hx hb hd rfl (x_look hl q) (k ls hl)
    · cases h
  · split at h
    · split at h
      · rename_i q; cases h; exact lv_istore hx hb hd hl q (xst1_map base b L _ (.int _)).symm k
      · cases h
    · cases h
  · split at h
    · split at h
      · rename_i q; cases h; exact lv_istore_n hx hb hd rfl hl q (xst1_map base b L _ (.int _)).symm k
      · cases h
    · cases h
  · split at h
    · split at h
      · rename_i q; cases h; exact lv_lstore hx hb hd hl q (xst2_map base b L _ (.long _)).symm k
      · cases h
    · cases h
  · split at h
    · split at h
      · rename_i q; cases h; exact lv_lstore_n hx hb hd rfl hl q (xst2_map base b L _ (.long _)).symm k
      · cases h
    · cases h
  · split at h
    · split at h
      · rename_i q; cases h; exact lv_astore hx hb hd hl q (xst1_map base b L _ (.ref _)).symm k
      · cases h
    · cases h
  · split at h
    · split at h
      · rename_i q; cases h; exact lv_astore_n hx hb hd rfl hl q (xst1_map base b L _ (.ref _)).symm k
      · cases h
    · cases h
  · split at h
    · rename_i q
      split at h
      · rename_i q2
        cases h
        obtain ⟨n, hn⟩ := x_lookn (base := base) (b := b) q
        exact lv_iinc hx hb hd hl hn rfl q2 (xst1_map base b L _ (.int _)).symm k
      · cases h
    · cases h
  · cases h
set_option maxHeartbeats 4000000 in
theorem xs3_ok (hx : p.tables.exec = Jvm.exec) (hb : c.code = cc) {i : Instr} {n pc' : Nat} {st st' : List Value} (hd : decode cc pc = .ok (i, n)) (hn : xsw i = true ∨ n = xlen i) (h : xs3 pc i st = some (pc', st')) (k : W p l e R s m args below meth c H locs cells slots Q (F0 m pc' ls (st'.map (xv base b)))) : W p l e R s m args below meth c H locs cells slots Q (F0 m pc ls (st.map (xv base b))) := by
  unfold xs3 at h
  split at h
  · obtain rfl : n = 3 := by rcases hn with q | q; cases q; exact q
    obtain ⟨t, h1, h2⟩ := Option.map_eq_some_iff.mp h
    cases h2
    exact lv_goto hx hb hd (x_jmp h1) k
  · obtain rfl : n = 3 := by rcases hn with q | q; cases q; exact q
    rename_i q off x r
    split at h
    · rename_i t q1
      cases q
      · split at h
        · rename_i hq; cases h; have hc := of_decide_eq_true hq; exact lv_if_eq hx hb hd (x_jmp q1) (fun _ => k) (fun z => absurd hc z)
        · rename_i hq; cases h; have hc := fun z => hq (decide_eq_true z); exact lv_if_eq hx hb hd (x_jmp q1) (fun z => absurd z hc) (fun _ => k)
      · split at h
        · rename_i hq; cases h; have hc := of_decide_eq_true hq; exact lv_if_ne hx hb hd (x_jmp q1) (fun _ => k) (fun z => absurd z hc)
        · rename_i hq; cases h; have hc : x = 0 := Decidable.not_not.mp (fun z => hq (decide_eq_true z)); exact lv_if_ne hx hb hd (x_jmp q1) (fun z => absurd hc z) (fun _ => k)
      · split at h
        · rename_i hq; cases h; have hc := of_decide_eq_true hq; exact lv_if_lt hx hb hd (x_jmp q1) (fun _ => k) (fun z => absurd hc z)
        · rename_i hq; cases h; have hc := fun z => hq (decide_eq_true z); exact lv_if_lt hx hb hd (x_jmp q1) (fun z => absurd z hc) (fun _ => k)
      · split at h
        · rename_i hq; cases h; have hc := of_decide_eq_true hq; exact lv_if_ge hx hb hd (x_jmp q1) (fun _ => k) (fun z => absurd hc z)
        · rename_i hq; cases h; have hc := fun z => hq (decide_eq_true z); exact lv_if_ge hx hb hd (x_jmp q1) (fun z => absurd z hc) (fun _ => k)
      · split at h
        · rename_i hq; cases h; have hc := of_decide_eq_true hq; exact lv_if_gt hx hb hd (x_jmp q1) (fun _ => k) (fun z => absurd hc z)
        · rename_i hq; cases h; have hc := fun z => hq (decide_eq_true z); exact lv_if_gt hx hb hd (x_jmp q1) (fun z => absurd z hc) (fun _ => k)
      · split at h
        · rename_i hq; cases h; have hc := of_decide_eq_true hq; exact lv_if_le hx hb hd (x_jmp q1) (fun _ => k) (fun z => absurd hc z)
        · rename_i hq; cases h; have hc := fun z => hq (decide_eq_true z); exact lv_if_le hx hb hd (x_jmp q1) (fun z => absurd z hc) (fun _ => k)
    · cases h
  · obtain rfl : n = 3 := by rcases hn with q | q; cases q; exact q
    rename_i q off y x r
    split at h
    · rename_i t q1
      cases q
      · split at h
        · rename_i hq; cases h; have hc := of_decide_eq_true hq; exact lv_icmp_eq hx hb hd (x_jmp q1) (fun _ => k) (fun z => absurd hc z)
        · rename_i hq; cases h; have hc := fun z => hq (decide_eq_true z); exact lv_icmp_eq hx hb hd (x_jmp q1) (fun z => absurd z hc) (fun _ => k)
      · split at h
        · rename_i hq; cases h; have hc := of_decide_eq_true hq; exact lv_icmp_ne hx hb hd (x_jmp q1) (fun _ => k) (fun z => absurd z hc)
        · rename_i hq; cases h; have hc : x = y := Decidable.not_not.mp (fun z => hq (decide_eq_true z)); exact lv_icmp_ne hx hb hd (x_jmp q1) (fun z => absurd hc z) (fun _ => k)
      · split at h
        · rename_i hq; cases h; have hc := of_decide_eq_true hq; exact lv_icmp_lt hx hb hd (x_jmp q1) (fun _ => k) (fun z => absurd hc z)
        · rename_i hq; cases h; have hc := fun z => hq (decide_eq_true z); exact lv_icmp_lt hx hb hd (x_jmp q1) (fun z => absurd z hc) (fun _ => k)
      · split at h
        · rename_i hq; cases h; have hc := of_decide_eq_true hq; exact lv_icmp_ge hx hb hd (x_jmp q1) (fun _ => k) (fun z => absurd hc z)
        · rename_i hq; cases h; have hc := fun z => hq (decide_eq_true z); exact lv_icmp_ge hx hb hd (x_jmp q1) (fun z => absurd z hc) (fun _ => k)
      · split at h
        · rename_i hq; cases h; have hc := of_decide_eq_true hq; exact lv_icmp_gt hx hb hd (x_jmp q1) (fun _ => k) (fun z => absurd hc z)
        · rename_i hq; cases h; have hc := fun z => hq (decide_eq_true z); exact lv_icmp_gt hx hb hd (x_jmp q1) (fun z => absurd z hc) (fun _ => k)
      · split at h
        · rename_i hq; cases h; have hc := of_decide_eq_true hq; exact lv_icmp_le hx hb hd (x_jmp q1) (fun _ => k) (fun z => absurd hc z)
        · rename_i hq; cases h; have hc := fun z => hq (decide_eq_true z); exact lv_icmp_le hx hb hd (x_jmp q1) (fun z => absurd z hc) (fun _ => k)
    · cases h
  · split at h
    · rename_i q
      obtain ⟨t, h1, h2⟩ := Option.map_eq_some_iff.mp h
      cases h2
      exact lv_tableOut hx hb hd q (x_jmp h1) k
    · rename_i q
      split at h
      · rename_i off q2
        obtain ⟨t, h1, h2⟩ := Option.map_eq_some_iff.mp h
        cases h2
        exact lv_tableIn hx hb hd (fun z => q (Or.inl z)) (fun z => q (Or.inr z)) q2 (x_jmp h1) k
      · cases h
  · split at h
    · rename_i q
      obtain ⟨t, h1, h2⟩ := Option.map_eq_some_iff.mp h
      cases h2
      exact lv_lookup hx hb hd q rfl (x_jmp h1) k
    · cases h
  · cases h
end XS
end
section
/-- what the tables must say of a program, so that the evaluator speaks of the machine -/
def xOK (G : xG) (cl : List vw_C) (Ts : List Cond) : Prop :=
  (∀ M pc i, xIns G M pc = some i → ∃ n, decode (xMet G M).2.1 pc = .ok (i, n) ∧ (xsw i = true ∨ n = xlen i)) ∧
  (∀ M k ci j, xFld G M k = some (ci, j) → ∃ (C : String) (T : u_T) (N : Nat), cl[ci]? = some (C, T, N) ∧ j < N ∧ (∀ w ∈ u_ws C T N, w ∈ Ts) ∧ Cond.fieldLink (xMet G M).1.cls k (T j).1 (T j).2.1 (T j).2.2.1 ∈ Ts) ∧
  (∀ M k ci j ty, xPut G M k = some (ci, j, ty) → ∃ (C : String) (T : u_T) (N : Nat) (ty0 : Nat → FieldType), cl[ci]? = some (C, T, N) ∧ j < N ∧ (∀ w ∈ u_ws C T N, w ∈ Ts) ∧ Cond.fieldLink (xMet G M).1.cls k (T j).1 (T j).2.1 (T j).2.2.1 ∈ Ts ∧ (∀ k, k < N → parseFieldDescriptor (T k).2.2.1 = some (ty0 k)) ∧ ty0 j = ty ∧ (∀ a, a < N → ∀ b, b < N → a ≠ b → (T a).2.1 ≠ (T b).2.1) ∧ ((T j).2.2.2 = false ∨ ((T j).2.2.2 = true ∧ (xMet G M).1.name = "<init>" ∧ (T j).1 = (xMet G M).1.cls))) ∧
  (∀ M k ci, xCls G M k = some ci → ∃ (C : String) (T : u_T) (N : Nat) (ty : Nat → FieldType), cl[ci]? = some (C, T, N) ∧ (∀ w ∈ u_ws C T N, w ∈ Ts) ∧ (∀ k, k < N → parseFieldDescriptor (T k).2.2.1 = some (ty k)) ∧ Cond.classLink (xMet G M).1.cls k C ∈ Ts ∧ Cond.instantiable C N ∈ Ts ∧ Cond.initialized C ∈ Ts ∧ (xDfl G ci).length = N ∧ (∀ base b, (xDfl G ci).map (xv base b) = xDfl G ci) ∧ ∀ j, j < N → defaultValue (ty j) = vp_V (xDfl G ci) j) ∧
  (∀ M k v, xCon G M k = some (.int v) → Jvm.Cond.constant (xMet G M).1.cls k v ∈ Ts) ∧
  (∀ M k v, xCon G M k = some (.long v) → Jvm.Cond.constantLong (xMet G M).1.cls k v ∈ Ts) ∧
  (Cond.arrayClass .int ∈ Ts ∧ Cond.arrayClass .long ∈ Ts ∧ Cond.arrayClass .byte ∈ Ts ∧ Cond.arrayClass .boolean ∈ Ts) ∧
  (∀ w ∈ Ts, goodWord w = true)
section XH
variable {p : Program} {l : Launch} {e : Env} {R : Room} {s : State} {m : MethodId} {args : Array Value} {below : List Frame} {meth : Method} {c : Code} {H : Heap} {locs : List Loc} {cells slots : Nat} {Q : State → Prop}
variable {cc : ByteArray} {pc : Nat} {ls : Array Slot} {base b : Nat} {D : va_G} {cl : List vw_C} {dA : FieldType → ClassId} {Ts : List Cond} {G : xG} {sc : xS}
theorem x_room {n : Nat} (hs : s.heap.size + cells = n) {g : JFrame} (k : H.size ≤ n → W p l e R s m args below meth c H locs cells slots Q g) : W p l e R s m args below meth c H locs cells slots Q g := by
  intro T hT X
  have h1 : (T.setVm s.vm).heap.size ≤ s.heap.size + cells := X.same.2.2.1
  have h2 : T.heap.size ≤ s.heap.size + cells := h1
  rw [hT, hs] at h2
  exact k h2 T hT X
theorem x_aft {h : xH} {a : Nat} {c1 : xE} {H1 : Heap} {locs1 : List Loc} (hw : xW D cl dA base b h H) (hsz : H1.size ≤ base + h.length) (hP1 : va_P D cl ((xw dA base b h).set a (base + a, xc dA base b c1)) H1) (hS1 : va_S (fun q => base ≤ q) H H1 locs1) : xW D cl dA base b (h.set a c1) H1 := by
  refine ⟨?_, by rw [xw_set]; exact hP1⟩
  have h1 := hS1.1
  have h2 := hw.1
  simp only [List.length_set]
  omega
theorem x_sS (hlc : ∀ q ∈ locs, base ≤ q.base) : va_S (fun q => base ≤ q) H H locs := ⟨Nat.le_refl _, fun _ _ _ => rfl, hlc⟩
theorem x_X {H1 : Heap} {locs1 : List Loc} {L : Nat} {xs : Nat → Int32} (hX : va_X b L xs s H) (hbb : b < base) (hw : base ≤ H.size) (hS1 : va_S (fun q => base ≤ q) H H1 locs1) : va_X b L xs s H1 := hX.kept (hS1.2.1 b (by omega) (by show ¬ base ≤ b; omega))
theorem x_ty {ty : FieldType} (h : xprim ty = true) : ∃ t0 : Nat, (xtys dA)[t0]? = some (dA ty, ty) := by
  cases ty <;> first | exact ⟨0, rfl⟩ | exact ⟨1, rfl⟩ | exact ⟨2, rfl⟩ | exact ⟨3, rfl⟩ | cases h
theorem x_in {j : Int32} {n : Nat} (h : ¬ (j < 0 ∨ n ≤ j.toNatClampNeg)) : vp_in j n := h
set_option maxHeartbeats 8000000 in
theorem xs4_ok (hG : xOK G cl Ts) {M : Nat} (hx : p.tables.exec = Jvm.exec) (hb : c.code = (xMet G M).2.1) (hown : s.vm.findClass (xMet G M).1.cls = some m.cls) (hts : ∀ w ∈ Ts, w.before args s = true) (hK : va_K D cl (xtys dA) s) (hin : (xMet G M).1.name = "<init>" → meth.name = "<init>") (hbb : b < base)
    {i : Instr} {st st' : List Value} {h h' : xH} (hd : decode (xMet G M).2.1 pc = .ok (i, xlen i)) (hX : va_X b sc.1 sc.2 s H) (hs : s.heap.size + cells = base + h.length) (hw : xW D cl dA base b h H) (hlc : ∀ q ∈ locs, base ≤ q.base) (hh : xs4 (xFld G M) (xPut G M) sc i st h = some (st', h'))
    (k : ∀ (H' : Heap) (locs' : List Loc), h'.length = h.length → xW D cl dA base b h' H' → va_X b sc.1 sc.2 s H' → (∀ q ∈ locs', base ≤ q.base) → W p l e R s m args below meth c H' locs' cells slots Q (F0 m (pc + xlen i) ls (st'.map (xv base b)))) : W p l e R s m args below meth c H locs cells slots Q (F0 m pc ls (st.map (xv base b))) := by
  have hge : base ≤ H.size := by have := hw.1; omega
  unfold xs4 at hh
  split at hh
  · split at hh
    · rename_i q1 q2
      split at hh
      · rename_i q3
        subst q3
        split at hh
        · rename_i q4
          cases hh
          obtain ⟨C, T, N, hc, hj, hwi, hlk⟩ := hG.2.1 _ _ _ _ q1
          exact va_get (D := D) (C := C) (T := T) (N := N) hx hb hts hwi hown hK hw.2 _ (xw_at dA base b q2) hc _ hj (hts _ hlk) (fun _ z => z) (by rw [List.getElem?_map, q4]; rfl) hd (k H locs rfl hw hX hlc)
        · cases hh
      · cases hh
    · cases hh
  · split at hh
    · rename_i q1 q2
      split at hh
      · rename_i q3
        obtain ⟨q3, q4, q5, q6⟩ := q3
        subst q3
        cases hh
        obtain ⟨C, T, N, ty0, hc, hj, hwi, hlk, hty, hty2, hnm, hfi⟩ := hG.2.2.1 _ _ _ _ _ q1
        have hd1 := hty _ hj
        rw [hty2] at hd1
        rcases hfi with hfin | ⟨hfin, z1, z2⟩
        · exact va_put (D := D) (C := C) (T := T) (N := N) hx hb hts hwi ty0 hty hnm hown hK hw.2 (xw_D dA base b h) (x_sS hlc) _ (xw_at dA base b q2) hc _ hj (hts _ hlk) (fun _ z => z) hfin hd1 (x_nar base b q6 q5) (x_fit base b q6) (by simpa using q4) hd (fun H1 locs1 hP1 hD1 hS1 => x_room hs (fun hsz => k H1 locs1 (by simp) (x_aft hw hsz (by simp only [xc, List.map_set]; exact hP1) hS1) (x_X hX hbb hge hS1) hS1.2.2))
        · exact va_putF (D := D) (C := C) (T := T) (N := N) hx hb hts hwi ty0 hty hnm hown hK hw.2 (xw_D dA base b h) (x_sS hlc) _ (xw_at dA base b q2) hc _ hj (hts _ hlk) (fun _ z => z) hfin (hin z1) z2 hd1 (x_nar base b q6 q5) (x_fit base b q6) (by simpa using q4) hd (fun H1 locs1 hP1 hD1 hS1 => x_room hs (fun hsz => k H1 locs1 (by simp) (x_aft hw hsz (by simp only [xc, List.map_set]; exact hP1) hS1) (x_X hX hbb hge hS1) hS1.2.2))
      · cases hh
    · cases hh
  · split at hh
    · rename_i q1
      split at hh
      · rename_i q2
        cases hh
        obtain ⟨t0, ht⟩ := x_ty (dA := dA) q2
        exact va_alen hx hb hK hw.2 _ t0 (xw_at dA base b q1) ht rfl hd (k H locs rfl hw hX hlc)
      · cases hh
    · cases hh
  · cases hh
    exact va_slen hx hb hX (A := fun q => base ≤ q) (H0 := H) (locs := locs) (by omega) (by show ¬ base ≤ b; omega) (x_sS hlc) hd (k H locs rfl hw hX hlc)
  · split at hh
    · rename_i q1
      split at hh
      · cases hh
      · rename_i q2
        cases hh
        exact va_iald hx hb hK hw.2 _ 0 (xw_at dA base b q1) rfl (x_in q2) hd (k H locs rfl hw hX hlc)
    · cases hh
  · split at hh
    · cases hh
    · rename_i q2
      cases hh
      exact va_sld hx hb hX (A := fun q => base ≤ q) (H0 := H) (locs := locs) (by omega) (by show ¬ base ≤ b; omega) (x_sS hlc) (x_in q2) hd (k H locs rfl hw hX hlc)
  · split at hh
    · rename_i q1
      split at hh
      · cases hh
      · rename_i q2
        cases hh
        exact va_lald hx hb hK hw.2 _ 1 (xw_at dA base b q1) rfl (x_in q2) hd (k H locs rfl hw hX hlc)
    · cases hh
  · split at hh
    · rename_i q1
      split at hh
      · cases hh
      · rename_i q2
        cases hh
        exact va_bald hx hb hK hw.2 _ 2 (xw_at dA base b q1) rfl (x_in q2) hd (k H locs rfl hw hX hlc)
    · rename_i q1
      split at hh
      · cases hh
      · rename_i q2
        cases hh
        exact va_zald hx hb hK hw.2 _ 3 (xw_at dA base b q1) rfl (x_in q2) hd (k H locs rfl hw hX hlc)
    · cases hh
  · split at hh
    · rename_i q1
      split at hh
      · cases hh
      · rename_i q2
        cases hh
        exact va_iast hx hb hK hw.2 (xw_D dA base b h) (x_sS hlc) _ 0 (xw_at dA base b q1) rfl (x_in q2) hd (fun H1 locs1 hP1 hD1 hS1 => x_room hs (fun hsz => k H1 locs1 (by simp) (x_aft hw hsz hP1 hS1) (x_X hX hbb hge hS1) hS1.2.2))
    · cases hh
  · split at hh
    · rename_i q1
      split at hh
      · cases hh
      · rename_i q2
        cases hh
        exact va_last hx hb hK hw.2 (xw_D dA base b h) (x_sS hlc) _ 1 (xw_at dA base b q1) rfl (x_in q2) hd (fun H1 locs1 hP1 hD1 hS1 => x_room hs (fun hsz => k H1 locs1 (by simp) (x_aft hw hsz hP1 hS1) (x_X hX hbb hge hS1) hS1.2.2))
    · cases hh
  · split at hh
    · rename_i q1
      split at hh
      · cases hh
      · rename_i q2
        cases hh
        exact va_bast hx hb hK hw.2 (xw_D dA base b h) (x_sS hlc) _ 2 (xw_at dA base b q1) rfl (x_in q2) hd (fun H1 locs1 hP1 hD1 hS1 => x_room hs (fun hsz => k H1 locs1 (by simp) (x_aft hw hsz hP1 hS1) (x_X hX hbb hge hS1) hS1.2.2))
    · rename_i q1
      split at hh
      · cases hh
      · rename_i q2
        cases hh
        exact va_zast hx hb hK hw.2 (xw_D dA base b h) (x_sS hlc) _ 3 (xw_at dA base b q1) rfl (x_in q2) hd (fun H1 locs1 hP1 hD1 hS1 => x_room hs (fun hsz => k H1 locs1 (by simp) (x_aft hw hsz hP1 hS1) (x_X hX hbb hge hS1) hS1.2.2))
    · cases hh
  · cases hh
end XH
end
section
/-- nest mates' links -/
abbrev xNs : Type := List (String × Nat × MethodName × String)
def xN (Ns : xNs) (U : State) : Prop := ∀ q ∈ Ns, va_Nw (.methodLinkNest q.1 q.2.1 q.2.2.1 q.2.2.2) U
theorem xN.warm {Ns : xNs} {s U : State} (hW : s.WarmedH U.vm) (h : xN Ns s) : xN Ns U := fun q hq => va_Nw.warmM hW (h q hq)
/-- what the tables must say of a call -/
def xOKc (G : xG) (cl : List vw_C) (Ts : List Cond) (Ns : xNs) (own : String) (k kind N na ci : Nat) : Prop := match kind with
  | 6 => Cond.methodLink own k Lib.objectInit ∈ Ts ∧ Cond.instanceMethod Lib.objectInit ∈ Ts ∧ Cond.code Lib.objectInit ⟨#[0xb1]⟩ 1 none ∈ Ts
  | 7 => Cond.methodLink own k arraycopyName ∈ Ts ∧ Cond.native arraycopyName ∈ Ts ∧ Cond.static arraycopyName ∈ Ts ∧ Cond.initialized "java/lang/System" ∈ Ts
  | 8 => Cond.methodLink own k Lib.Math.max.name ∈ Ts ∧ Cond.static Lib.Math.max.name ∈ Ts ∧ Cond.initialized "java/lang/Math" ∈ Ts ∧ Cond.code Lib.Math.max.name Lib.Math.max.code 2 (some .int) ∈ Ts
  | _ => (plainName (xMet G N).1.cls = true ∧ Cond.code (xMet G N).1 (xMet G N).2.1 (xMet G N).2.2.1 (xMet G N).2.2.2 ∈ Ts ∧ Cond.initialized (xMet G N).1.cls ∈ Ts ∧ ((xMet G N).1.cls ≠ "java/lang/invoke/MethodHandle" ∧ (xMet G N).1.cls ≠ "java/lang/invoke/VarHandle") ∧ (xMet G N).2.2.1 ≤ 40) ∧ match kind with
    | 0 => (parseMethodDescriptor (xMet G N).1.desc).map (fun d => d.parameters.length) = some (na - 1) ∧ 0 < na ∧ (∃ T NN, cl[ci]? = some ((xMet G N).1.cls, T, NN)) ∧ Cond.methodLink own k (xMet G N).1 ∈ Ts ∧ Cond.instanceMethod (xMet G N).1 ∈ Ts ∧ Cond.selects (xMet G N).1.cls (xMet G N).1 (xMet G N).1 ∈ Ts
    | 1 => (parseMethodDescriptor (xMet G N).1.desc).map (fun d => d.parameters.length) = some na ∧ Cond.methodLink own k (xMet G N).1 ∈ Ts ∧ Cond.static (xMet G N).1 ∈ Ts
    | 4 => (parseMethodDescriptor (xMet G N).1.desc).map (fun d => d.parameters.length) = some (na - 1) ∧ 0 < na ∧ Cond.methodLink own k (xMet G N).1 ∈ Ts ∧ (xMet G N).1.name = "<init>" ∧ Cond.instanceMethod (xMet G N).1 ∈ Ts ∧ (xMet G N).2.2.2 = none
    | 5 => (parseMethodDescriptor (xMet G N).1.desc).map (fun d => d.parameters.length) = some (na - 1) ∧ 0 < na ∧ (∃ host, (own, k, (xMet G N).1, host) ∈ Ns) ∧ (xMet G N).1.name = "<init>" ∧ Cond.instanceMethod (xMet G N).1 ∈ Ts ∧ (xMet G N).2.2.2 = none
    | _ => False
def xOKm (G : xG) (cl : List vw_C) (Ts : List Cond) (Ns : xNs) : Prop := ∀ M k kind N na ci, xMth G M k = some (kind, N, na, ci) → xOKc G cl Ts Ns (xMet G M).1.cls k kind N na ci
section XC
variable {p : Program} {l : Launch} {e : Env} {R : Room} {s : State} {m : MethodId} {args : Array Value} {below : List Frame} {meth : Method} {c : Code} {H : Heap} {locs : List Loc} {cells slots : Nat} {Q : State → Prop}
variable {cc : ByteArray} {pc : Nat} {ls : Array Slot} {base b : Nat} {D : va_G} {cl : List vw_C} {dA : FieldType → ClassId} {Ts : List Cond} {Ns : xNs} {G : xG} {sc : xS}
theorem x_fresh {h : xH} {q : Nat} {ce : va_E} {H1 : Heap} (hsz : H1.size ≤ base + (h.length + 1)) (hP1 : va_P D cl (xw dA base b h ++ [(q, ce)]) H1) (hD1 : va_D (fun q => base ≤ q) (xw dA base b h ++ [(q, ce)])) : q = base + h.length ∧ H1.size = base + (h.length + 1) := by
  have hq : (xw dA base b h ++ [(q, ce)])[h.length]? = some (q, ce) := by
    rw [List.getElem?_append_right (by rw [xw_len]; exact Nat.le_refl _), xw_len, Nat.sub_self]; rfl
  have h1 : q < H1.size := (hP1 _ _ hq).lt
  have h2 : base ≤ q := hD1.2 _ _ hq
  have h3 : q = base + h.length := by
    rcases Nat.lt_or_ge q (base + h.length) with z | z
    · exfalso
      have hi : q - base < h.length := by omega
      have e1 : (xw dA base b h ++ [(q, ce)])[q - base]? = some (base + (q - base), xc dA base b h[q - base]) := by
        rw [List.getElem?_append_left (by rw [xw_len]; exact hi)]
        exact xw_at dA base b (List.getElem?_eq_getElem hi)
      have := hD1.1 _ _ _ _ e1 hq (by show base + (q - base) = q; omega)
      omega
    · omega
  exact ⟨h3, by omega⟩
theorem x_arrEq {ty : FieldType} {cA : ClassId} (hp : xprim ty = true) (hK : va_K D cl (xtys dA) s) (hK2 : va_K D cl (xtys dA ++ [(cA, ty)]) s) : cA = dA ty := by
  have h1 := (hK2.2 4 (cA, ty) rfl).2
  obtain ⟨t0, ht⟩ := x_ty (dA := dA) hp
  have h2 := (hK.2 t0 _ ht).2
  cases ty <;> first | exact Option.some.inj (h1.symm.trans h2) | cases hp
theorem x_call {mc ms : Nat} {st0 rest : List Value} {Qa : State → Outcome → State → Prop} {free : Addr → Prop} (hr : va_Run p l e R s m args below meth c H locs cells slots mc ms (F0 m pc ls st0) rest Qa free) (hf : ∀ q, free q → base ≤ q) (hlc : ∀ q ∈ locs, base ≤ q.base)
    (kk : ∀ (v : Option Value) (st₀ t : State) (locs1 : List Loc), s.vm.Alike t.vm → Qa st₀ (.returned v) t → (∀ q ∈ locs1, base ≤ q.base) → W p l e R s m args below meth c t.heap locs1 (cells + mc) (slots + ms) Q (F0 m (pc + 3) ls (v.toList ++ rest))) : W p l e R s m args below meth c H locs cells slots Q (F0 m pc ls st0) := by
  intro T hT X
  obtain ⟨v, st₀, t, T', L, h0, X', hL, e1, e2, hq, st⟩ := hr T hT X
  obtain ⟨t2, a1, b1⟩ := kk v st₀ t (locs ++ L) (by rw [← e2]; exact X'.warmed.alike) hq (fun q hq => by
    rcases List.mem_append.mp hq with h | h
    · exact hlc q h
    · exact hf _ (hL q h)) T' e1 X'
  exact ⟨t2, st t2 a1, b1⟩
/-- what is known inside a method's body -/
def xAt (G : xG) (Ts : List Cond) (Ns : xNs) (D : va_G) (cl : List vw_C) (dA : FieldType → ClassId) (base b M : Nat) (p : Program) (s : State) (m : MethodId) (args : Array Value) (meth : Method) (c : Code) : Prop :=
  p.tables.exec = Jvm.exec ∧ c.code = (xMet G M).2.1 ∧ c.maxLocals = (xMet G M).2.2.1 ∧ s.vm.findClass (xMet G M).1.cls = some m.cls ∧ (∀ w ∈ Ts, w.before args s = true) ∧ va_K D cl (xtys dA) s ∧ ((xMet G M).1.name = "<init>" → meth.name = "<init>") ∧ b < base ∧ xN Ns s
/-- the contract of a run of a method: what it starts from, what it leaves -/
def xPc (Ns : xNs) (D : va_G) (cl : List vw_C) (dA : FieldType → ClassId) (base b : Nat) (sc : xS) (as : List Value) (h : xH) : Array Value → State → Prop := fun v U => v = (as.map (xv base b)).toArray ∧ xW D cl dA base b h U.heap ∧ va_X b sc.1 sc.2 U U.heap ∧ va_K D cl (xtys dA) U ∧ xN Ns U
def xQc (D : va_G) (cl : List vw_C) (dA : FieldType → ClassId) (base b : Nat) (sc : xS) (h : xH) (r : xR) : Array Value → State → Outcome → State → Prop := fun _ _ o t => o = .returned (r.1.map (xv base b)) ∧ h.length + r.2.2.1 = r.2.1.length ∧ xW D cl dA base b r.2.1 t.heap ∧ va_X b sc.1 sc.2 t t.heap ∧ va_K D cl (xtys dA) t
theorem xPc_blind (as : List Value) (h : xH) : FrameBlind (xPc Ns D cl dA base b sc as h) := fun a U g mk q => by
  obtain ⟨q0, q1, q2, q3, q4⟩ := q
  exact ⟨q0, q1, va_X.moved (u := U) (U := U.calling g mk a) (Vm.Alike.refl U.vm) q2, va_K.moved (u := U) (U := U.calling g mk a) (Vm.Alike.refl U.vm) q3, fun q hq => va_Nw.same rfl rfl (q4 q hq)⟩
/-- a body is sound at fuel n: any run that the evaluator makes is the machine's -/
def xSnd (G : xG) (Ts : List Cond) (Ns : xNs) (D : va_G) (cl : List vw_C) (dA : FieldType → ClassId) (base b : Nat) (sc : xS) (l : Launch) (n : Nat) : Prop :=
  ∀ (d M pc : Nat) (L : xL) (st : List Value) (h : xH) (r : xR), xev G sc n d M pc L st h = some r →
  ∀ (p : Program) (e : Env) (s : State) (m : MethodId) (args : Array Value) (below : List Frame) (meth : Method) (c : Code) (R : Room) (H : Heap) (locs : List Loc) (cells slots : Nat) (Q : State → Prop) (ls : Array Slot),
    xAt G Ts Ns D cl dA base b M p s m args meth c → s.heap.size + cells = base + h.length → xW D cl dA base b h H → va_X b sc.1 sc.2 s H → (∀ q ∈ locs, base ≤ q.base) → lv_has ls (xMet G M).2.2.1 (L.map (xq base b)) →
    cells + r.2.2.1 ≤ R.cells → slots + r.2.2.2 ≤ R.slots → d ≤ R.frames → 64 * d ≤ R.locals →
    (∀ (pc' : Nat) (ls' : Array Slot) (i : Instr) (H' : Heap) (locs' : List Loc), decode (xMet G M).2.1 pc' = .ok (i, 1) → xret i (xMet G M).2.2.2 r.1 = true → s.heap.size + (cells + r.2.2.1) = base + r.2.1.length → xW D cl dA base b r.2.1 H' → va_X b sc.1 sc.2 s H' → (∀ q ∈ locs', base ≤ q.base) → W p l e R s m args below meth c H' locs' (cells + r.2.2.1) (slots + r.2.2.2) Q (F0 m pc' ls' (r.1.map (xv base b)).toList)) →
    W p l e R s m args below meth c H locs cells slots Q (F0 m pc ls (st.map (xv base b)))
set_option maxHeartbeats 4000000 in
theorem x_met {n : Nat} (ih : xSnd G Ts Ns D cl dA base b sc l n) (hbb : b < base) {d N : Nat} {as : List Value} {h : xH} {r : xR} (hr : xev G sc n d N 0 (lv_args 0 as) [] h = some r) (hl : (lg_sl as).length ≤ (xMet G N).2.2.1) (hy : plainName (xMet G N).1.cls = true) :
    Met l (xMet G N).1 (Cond.code (xMet G N).1 (xMet G N).2.1 (xMet G N).2.2.1 (xMet G N).2.2.2 :: Ts) { frames := d, cells := r.2.2.1, slots := r.2.2.2, locals := 64 * d } (xPc Ns D cl dA base b sc as h) (xQc D cl dA base b sc h r) r.2.2.1 r.2.2.2 (fun q => base ≤ q) := by
  refine Met.ofW (cc := (xMet G N).2.1) (maxL := (xMet G N).2.2.1) (ret := (xMet G N).2.2.2) hy rfl ?_
  intro p e s m args below meth c s₁ B hml hv
  obtain ⟨rfl, hw, hX, hK, hN⟩ := hv
  have hx := B.exec
  have hb := B.bytes
  have hr1 := B.returns
  have hts := atoms_spec B.pre
  have hown := findClass_of_methodNamed B.named
  have hlocks := B.notSynchronized
  have hname := (name_of_methodNamed B.named B.method).1
  have hle := lv_entry (as.map (xv base b)) (n := (xMet G N).2.2.1) (by rw [x_sl]; exact hl)
  rw [lg_entry_eq]
  rw [x_args] at hle
  refine ih d N 0 (lv_args 0 as) [] h r hr p e s m _ below meth c _ s.heap [] 0 0 _ _ ⟨hx, hb, hml, hown, fun w hw => hts w (List.mem_cons_of_mem _ hw), hK, fun z => by rw [hname]; exact z, hbb, hN⟩ hw.1 hw hX (fun q hq => by cases hq) hle (by simp [headSpec]) (by simp [headSpec]) (Nat.le_refl _) (Nat.le_refl _) ?_
  intro pc' ls' i H' locs' hd hv hsz hw' hX' hlc
  obtain ⟨v, h', a1, a2⟩ := r
  have hsz2 : h.length + a1 = h'.length := by have := hw.1; simp only [Nat.zero_add] at hsz; omega
  simp only [Nat.zero_add]
  unfold xret at hv
  split at hv
  · rename_i q1 q2
    have q2 : v = none := q2
    subst q2
    refine W.vret hx hb (hr1.trans q1) (fun t ht hW => ⟨rfl, hsz2, by rw [ht]; exact hw', by rw [ht]; exact va_X.moved hW.alike hX', va_K.moved hW.alike hK⟩) hlc hd
  · rename_i ty x q1 q2
    have q2 : v = some (.int x) := q2
    subst q2
    exact W.zret hx hb (hr1.trans q1) (of_decide_eq_true hv) (fun t ht hW => ⟨rfl, hsz2, by rw [ht]; exact hw', by rw [ht]; exact va_X.moved hW.alike hX', va_K.moved hW.alike hK⟩) hlc hd
  · rename_i x q1 q2
    have q2 : v = some (.long x) := q2
    subst q2
    exact W.lret hx hb (hr1.trans q1) (fun t ht hW => ⟨rfl, hsz2, by rw [ht]; exact hw', by rw [ht]; exact va_X.moved hW.alike hX', va_K.moved hW.alike hK⟩) hlc hd
  · cases hv
end XC
end
section
theorem xs1_len {i : Instr} {st st' : List Value} (h : xs1 i st = some st') : xsw i = false ∧ xlen i = 1 := by
  unfold xs1 at h
  split at h <;> first | exact ⟨rfl, rfl⟩ | cases h
theorem xs1d_len {i : Instr} {st st' : List Value} (h : xs1d i st = some st') : xsw i = false ∧ xlen i = 1 := by
  unfold xs1d at h
  split at h <;> first | exact ⟨rfl, rfl⟩ | cases h
theorem xs2_len {con : Nat → Option Value} {nL : Nat} {i : Instr} {L : xL} {st : List Value} {r : xL × List Value} (h : xs2 con nL i L st = some r) : xsw i = false := by
  unfold xs2 at h
  split at h <;> first | rfl | cases h
theorem xs4_len {fld : Nat → Option (Nat × Nat)} {put : Nat → Option (Nat × Nat × FieldType)} {sc : xS} {i : Instr} {st : List Value} {h0 : xH} {r : List Value × xH} (h : xs4 fld put sc i st h0 = some r) : xsw i = false := by
  unfold xs4 at h
  split at h <;> first | rfl | cases h
theorem xret_len {i : Instr} {ty : Option FieldType} {v : Option Value} (h : xret i ty v = true) : xsw i = false ∧ xlen i = 1 := by
  unfold xret at h
  split at h <;> first | exact ⟨rfl, rfl⟩ | cases h
theorem xlink_len {mth : Nat → Option (Nat × Nat × Nat × Nat)} {i : Instr} {r : Nat × Nat × Nat × Nat} (h : xlink mth i = some r) : xsw i = false ∧ xlen i = 3 := by
  unfold xlink at h
  split at h <;> first | exact ⟨rfl, rfl⟩ | cases h
theorem x_n {i : Instr} {n k : Nat} (h : xsw i = true ∨ n = xlen i) (h1 : xsw i = false) (h2 : xlen i = k) : n = k := by
  rcases h with z | z
  · rw [h1] at z; cases z
  · exact z.trans h2
theorem xadd_some {k n : Nat} {o : Option xR} {r : xR} (h : xadd k n o = some r) : ∃ v h' a b, o = some (v, h', a, b) ∧ r = (v, h', k + a, n + b) := by
  unfold xadd at h
  split at h
  · cases h; exact ⟨_, _, _, _, rfl, rfl⟩
  · cases h
theorem xlink_in {mth : Nat → Option (Nat × Nat × Nat × Nat)} {i : Instr} {kind N k ci : Nat} (h : xlink mth i = some (kind, N, k, ci)) : (∃ idx, i = .invokevirtual idx ∧ kind = 0 ∧ mth idx = some (kind, N, k, ci)) ∨ (∃ idx, i = .invokestatic idx ∧ (kind = 1 ∨ kind = 7 ∨ kind = 8) ∧ mth idx = some (kind, N, k, ci)) ∨ (∃ idx, i = .invokespecial idx ∧ (kind = 4 ∨ kind = 5 ∨ kind = 6) ∧ mth idx = some (kind, N, k, ci)) := by
  unfold xlink at h
  split at h
  · split at h
    · rename_i q; cases h; exact Or.inl ⟨_, rfl, rfl, q⟩
    · cases h
  · split at h
    · rename_i q; cases h; exact Or.inr (Or.inl ⟨_, rfl, Or.inl rfl, q⟩)
    · rename_i q; cases h; exact Or.inr (Or.inl ⟨_, rfl, Or.inr (Or.inl rfl), q⟩)
    · rename_i q; cases h; exact Or.inr (Or.inl ⟨_, rfl, Or.inr (Or.inr rfl), q⟩)
    · cases h
  · split at h
    · rename_i q; cases h; exact Or.inr (Or.inr ⟨_, rfl, Or.inl rfl, q⟩)
    · rename_i q; cases h; exact Or.inr (Or.inr ⟨_, rfl, Or.inr (Or.inl rfl), q⟩)
    · rename_i q; cases h; exact Or.inr (Or.inr ⟨_, rfl, Or.inr (Or.inr rfl), q⟩)
    · cases h
  · cases h
theorem xhead_0 {ci : Nat} {as : List Value} {h : xH} (q : xhead 0 ci as h = true) : ∃ a r fs, as = .ref a :: r ∧ h[a]? = some (.inr (ci, fs)) := by
  cases as with
  | nil => cases q
  | cons v r =>
    cases v with
    | ref a =>
      have q : (match h[a]? with | some (.inr (cj, _)) => ci == cj | _ => false) = true := q
      split at q
      · rename_i cj fs q2
        rw [beq_iff_eq.mp q]
        exact ⟨a, r, fs, rfl, q2⟩
      · cases q
    | _ => cases q
theorem xhead_4 {kind ci : Nat} {as : List Value} {h : xH} (hk : kind = 4 ∨ kind = 5) (q : xhead kind ci as h = true) : ∃ a r, as = .ref a :: r := by
  cases as with
  | nil => rcases hk with rfl | rfl <;> cases q
  | cons v r =>
    cases v with
    | ref a => exact ⟨a, r, rfl⟩
    | _ => rcases hk with rfl | rfl <;> cases q
section XSD
variable {p : Program} {l : Launch} {e : Env} {R : Room} {s : State} {m : MethodId} {args : Array Value} {below : List Frame} {meth : Method} {c : Code} {H : Heap} {locs : List Loc} {cells slots : Nat} {Q : State → Prop}
variable {cc : ByteArray} {pc : Nat} {ls : Array Slot} {base b : Nat} {D : va_G} {cl : List vw_C} {dA : FieldType → ClassId} {Ts : List Cond} {Ns : xNs} {G : xG} {sc : xS}
set_option maxHeartbeats 4000000 in
theorem xcopy_ok (hx : p.tables.exec = Jvm.exec) (hb : c.code = cc) (hml : c.maxLocals = ls.size) {own : String} {idx : Nat} (hown : s.vm.findClass own = some m.cls) (hlink : (Cond.methodLink own idx arraycopyName).before args s = true) (hnat : (Cond.native arraycopyName).before args s = true) (hstat : (Cond.static arraycopyName).before args s = true) (hini : (Cond.initialized "java/lang/System").before args s = true) (hK : va_K D cl (xtys dA) s) (hbb : b < base)
    {st st' : List Value} {h h' : xH} (hd : decode cc pc = .ok (.invokestatic idx, 3)) (hX : va_X b sc.1 sc.2 s H) (hs : s.heap.size + cells = base + h.length) (hw : xW D cl dA base b h H) (hlc : ∀ q ∈ locs, base ≤ q.base) (hfr : 1 ≤ R.frames) (hlo : 26 ≤ R.locals) (hh : xcopy st h = some (st', h'))
    (k : ∀ (H' : Heap) (locs' : List Loc), h'.length = h.length → xW D cl dA base b h' H' → va_X b sc.1 sc.2 s H' → (∀ q ∈ locs', base ≤ q.base) → W p l e R s m args below meth c H' locs' cells slots Q (F0 m (pc + 3) ls (st'.map (xv base b)))) : W p l e R s m args below meth c H locs cells slots Q (F0 m pc ls (st.map (xv base b))) := by
  have hge : base ≤ H.size := by have := hw.1; omega
  unfold xcopy at hh
  split at hh
  · split at hh
    · cases hh
    · rename_i n dp a1 sp a0 r q0
      have n1 : ¬ n < 0 := fun z => q0 (Or.inl z)
      have n2 : ¬ dp < 0 := fun z => q0 (Or.inr (Or.inl z))
      have n3 : ¬ sp < 0 := fun z => q0 (Or.inr (Or.inr (Or.inl z)))
      have n4 : (r.map (fun v => v.category)).sum ≤ 8 := by
        rcases Nat.lt_or_ge 8 (r.map (fun v => v.category)).sum with z | z
        · exact absurd (Or.inr (Or.inr (Or.inr z))) q0
        · exact z
      have n5 : ((r.map (xv base b)).map (fun v => v.category)).sum + (nativeFrameWords "java/lang/System" "arraycopy" 5 + 11) ≤ R.locals := by
        have e1 : (r.map (xv base b)).map (fun v => v.category) = r.map (fun v => v.category) := by
          rw [List.map_map]; apply List.map_congr_left; intro v _; exact xv_cat base b v
        rw [e1]
        have e2 : nativeFrameWords "java/lang/System" "arraycopy" 5 = 7 := by decide +kernel
        rw [e2]
        omega
      split at hh
      · rename_i m0 f m1 g q1 q2
        split at hh
        · rename_i q3
          cases hh
          exact va_copyi hx hb hml hown hlink hnat hstat hini hK hw.2 (xw_D dA base b h) (x_sS hlc) _ _ 0 0 (xw_at dA base b q1) (xw_at dA base b q2) rfl rfl rfl n3 n2 n1 q3.1 q3.2 (fun i _ => rfl) hfr n5 hd (fun H1 locs1 hP1 hD1 hS1 => x_room hs (fun hsz => k H1 locs1 (by simp) (x_aft hw hsz hP1 hS1) (x_X hX hbb hge hS1) hS1.2.2))
        · cases hh
      · rename_i m0 f m1 g q1 q2
        split at hh
        · rename_i q3
          cases hh
          exact va_copyl hx hb hml hown hlink hnat hstat hini hK hw.2 (xw_D dA base b h) (x_sS hlc) _ _ 1 1 (xw_at dA base b q1) (xw_at dA base b q2) rfl rfl rfl n3 n2 n1 q3.1 q3.2 (fun i _ => rfl) hfr n5 hd (fun H1 locs1 hP1 hD1 hS1 => x_room hs (fun hsz => k H1 locs1 (by simp) (x_aft hw hsz hP1 hS1) (x_X hX hbb hge hS1) hS1.2.2))
        · cases hh
      · rename_i m0 f m1 g q1 q2
        split at hh
        · rename_i q3
          cases hh
          exact va_copyi hx hb hml hown hlink hnat hstat hini hK hw.2 (xw_D dA base b h) (x_sS hlc) _ _ 2 2 (xw_at dA base b q1) (xw_at dA base b q2) rfl rfl rfl n3 n2 n1 q3.1.1 q3.1.2 (fun i hi => List.all_eq_true.mp q3.2 i (List.mem_range.mpr hi)) hfr n5 hd (fun H1 locs1 hP1 hD1 hS1 => x_room hs (fun hsz => k H1 locs1 (by simp) (x_aft hw hsz hP1 hS1) (x_X hX hbb hge hS1) hS1.2.2))
        · cases hh
      · cases hh
  · cases hh
theorem x_rest (r : List Value) (h : ¬ 8 < (r.map (fun v => v.category)).sum) : ((r.map (xv base b)).map (fun v => v.category)).sum ≤ 8 := by
  have e1 : (r.map (xv base b)).map (fun v => v.category) = r.map (fun v => v.category) := by
    rw [List.map_map]; apply List.map_congr_left; intro v _; exact xv_cat base b v
  rw [e1]
  omega
set_option maxHeartbeats 4000000 in
/-- a call, whatever its kind: the callee's run is known -/
theorem xcall_ok (hG : xOK G cl Ts) (hM : xOKm G cl Ts Ns) {n : Nat} (ih : xSnd G Ts Ns D cl dA base b sc l n) {M : Nat} (hA : xAt G Ts Ns D cl dA base b M p s m args meth c) {i : Instr} {kind N k ci d : Nat} {st : List Value} {h : xH} {r1 : xR} (hd : decode (xMet G M).2.1 pc = .ok (i, 3)) (hlk : xlink (xMth G M) i = some (kind, N, k, ci))
    (h1 : ¬ st.length < k) (h2 : ¬ 8 < ((st.drop k).map (fun v => v.category)).sum) (h3 : ¬ (xMet G N).2.2.1 < (lg_sl (st.take k).reverse).length) (h4 : xhead kind ci (st.take k).reverse h = true) (hr1 : xev G sc n d N 0 (lv_args 0 (st.take k).reverse) [] h = some r1)
    (hX : va_X b sc.1 sc.2 s H) (hw : xW D cl dA base b h H) (hlc : ∀ q ∈ locs, base ≤ q.base) (hl : ls.size = (xMet G M).2.2.1) (hfr : d + 1 ≤ R.frames) (hlo : 64 * (d + 1) ≤ R.locals) (hc : cells + r1.2.2.1 ≤ R.cells) (hsl : slots + r1.2.2.2 ≤ R.slots)
    (kk : ∀ (H' : Heap) (locs' : List Loc), h.length + r1.2.2.1 = r1.2.1.length → xW D cl dA base b r1.2.1 H' → va_X b sc.1 sc.2 s H' → (∀ q ∈ locs', base ≤ q.base) → W p l e R s m args below meth c H' locs' (cells + r1.2.2.1) (slots + r1.2.2.2) Q (F0 m (pc + 3) ls ((r1.1.toList ++ st.drop k).map (xv base b)))) : W p l e R s m args below meth c H locs cells slots Q (F0 m pc ls (st.map (xv base b))) := by
  obtain ⟨hx, hb, hml, hown, hts, hK, hin, hbb, hN⟩ := hA
  have good : ∀ w ∈ Ts, goodWord w = true := hG.2.2.2.2.2.2.2
  have h3' : (lg_sl (st.take k).reverse).length ≤ (xMet G N).2.2.1 := Nat.not_lt.mp h3
  have hrest := x_rest (base := base) (b := b) (st.drop k) h2
  have hroom := lv_room (m := m) (pc := pc) (ls := ls) (rest := st.map (xv base b)) hrest
  have hsplit : st.map (xv base b) = ((st.take k).reverse.map (xv base b)).reverse ++ (st.drop k).map (xv base b) := by
    rw [List.map_reverse, List.reverse_reverse, ← List.map_append, List.take_append_drop]
  have hlenas : (st.take k).reverse.length = k := by rw [List.length_reverse, List.length_take]; omega
  have fin : ∀ {a : Array Value}, va_Run p l e R s m args below meth c H locs cells slots r1.2.2.1 r1.2.2.2 (F0 m pc ls (st.map (xv base b))) ((st.drop k).map (xv base b)) (xQc D cl dA base b sc h r1 a) (fun q => base ≤ q) → W p l e R s m args below meth c H locs cells slots Q (F0 m pc ls (st.map (xv base b))) := by
    intro a hrun
    refine x_call hrun (fun q z => z) hlc ?_
    intro v st₀ t locs1 hvm hq hlc1
    obtain ⟨e1, e2, e3, e4, e5⟩ := hq
    cases e1
    have := kk t.heap locs1 e2 e3 (va_X.moved hvm.symm e4) hlc1
    rw [List.map_append] at this
    cases hv : r1.1 with
    | none => rw [hv] at this; exact this
    | some z => rw [hv] at this; exact this
  have hgi : ∀ {y : MethodName} {bs : ByteArray} {mL : Nat} {rt : Option FieldType}, Cond.code y bs mL rt ∈ Ts → GoodIn Ts (Cond.code y bs mL rt :: Ts) := fun c2 w hw => by
    rcases List.mem_cons.mp hw with z | z
    · rw [z]; exact ⟨c2, good_of_word (good _ c2)⟩
    · exact ⟨z, good_of_word (good _ z)⟩
  rcases xlink_in hlk with ⟨idx, rfl, rfl, q1⟩ | ⟨idx, rfl, hk, q1⟩ | ⟨idx, rfl, hk, q1⟩
  · obtain ⟨⟨c1, c2, c3, c4, c5⟩, c6, c7, ⟨T, NN, c8⟩, c9, c10, c11⟩ := hM _ _ _ _ _ _ q1
    have hmet := x_met ih hbb (d := d) hr1 h3' c1
    obtain ⟨a, rest', fs, qz, q2⟩ := xhead_0 h4
    have hw' := xw_at dA base b q2
    have hcw : CallW R s args (xMet G M).1.cls (xMet G N).1.cls idx (xMet G N).1 (xMet G N).2.1 (xMet G N).2.2.1 (xMet G N).2.2.2 (Cond.code (xMet G N).1 (xMet G N).2.1 (xMet G N).2.2.1 (xMet G N).2.2.2 :: Ts) { frames := d, cells := r1.2.2.1, slots := r1.2.2.2, locals := 64 * d } r1.2.2.1 r1.2.2.2 (k - 1) :=
      ⟨callB_of (k - 1) hts (hgi c2) rfl rfl rfl (hts _ c3) (hts _ c9) ⟨c4.1, c4.2, c6⟩ ⟨hfr, by show 8 + ((xMet G N).2.2.1 + 11) + 64 * d ≤ R.locals; omega⟩, hts _ c10, hts _ c11⟩
    rw [qz] at hmet hsplit hlenas
    exact fin (va_runV (As := rest'.map (xv base b)) (b := base + a) (nL := (xMet G M).2.2.1) (Ts := Ts) ⟨hx, hb, hml, hown, hts⟩ hmet hcw ⟨xPc_blind _ _, va_recv hK hw.2 (q0 := a) c8 hw', fun U hU hW => ⟨rfl, by rw [hU]; exact hw, by rw [hU]; exact va_X.moved hW.alike hX, va_K.moved hW.alike hK, hN.warm hW⟩⟩ rfl (by rw [List.length_map]; simp only [List.length_cons] at hlenas; omega) hl (by rw [hsplit]; simp [xv]) hroom hd ⟨hc, hsl⟩)
  · rcases hk with rfl | rfl | rfl
    · obtain ⟨⟨c1, c2, c3, c4, c5⟩, c6, c7, c8⟩ := hM _ _ _ _ _ _ q1
      have hmet := x_met ih hbb (d := d) hr1 h3' c1
      exact fin (va_runS (As := (st.take k).reverse.map (xv base b)) (nL := (xMet G M).2.2.1) (Ts := Ts) (n := k) ⟨hx, hb, hml, hown, hts⟩ hmet ⟨callB_of k hts (hgi c2) rfl rfl rfl (hts _ c3) (hts _ c7) ⟨c4.1, c4.2, c6⟩ ⟨hfr, by show 8 + ((xMet G N).2.2.1 + 11) + 64 * d ≤ R.locals; omega⟩, hts _ c8⟩ ⟨xPc_blind _ _, fun U hU hW => ⟨rfl, by rw [hU]; exact hw, by rw [hU]; exact va_X.moved hW.alike hX, va_K.moved hW.alike hK, hN.warm hW⟩⟩ rfl (by rw [List.length_map]; exact hlenas) hl hsplit hroom hd ⟨hc, hsl⟩)
    · cases h4
    · cases h4
  · rcases hk with rfl | rfl | rfl
    · obtain ⟨⟨c1, c2, c3, c4, c5⟩, c6, c7, c8, c9, c10, c11⟩ := hM _ _ _ _ _ _ q1
      have hmet := x_met ih hbb (d := d) hr1 h3' c1
      obtain ⟨a, rest', qz⟩ := xhead_4 (Or.inl rfl) h4
      rw [qz] at hmet hsplit hlenas
      rw [c11] at hmet c2
      exact fin (va_runI (As := rest'.map (xv base b)) (b := base + a) (nL := (xMet G M).2.2.1) (Ts := Ts) (n := k - 1) ⟨hx, hb, hml, hown, hts⟩ hmet ⟨callB_of (k - 1) hts (hgi c2) rfl rfl rfl (hts _ c3) (hts _ c8) ⟨c4.1, c4.2, c6⟩ ⟨hfr, by show 8 + ((xMet G N).2.2.1 + 11) + 64 * d ≤ R.locals; omega⟩, c9, hts _ c10⟩ ⟨xPc_blind _ _, fun U hU hW => ⟨rfl, by rw [hU]; exact hw, by rw [hU]; exact va_X.moved hW.alike hX, va_K.moved hW.alike hK, hN.warm hW⟩⟩ rfl (by rw [List.length_map]; simp only [List.length_cons] at hlenas; omega) hl (by rw [hsplit]; simp [xv]) hroom hd ⟨hc, hsl⟩)
    · obtain ⟨⟨c1, c2, c3, c4, c5⟩, c6, c7, ⟨host, c8⟩, c9, c10, c11⟩ := hM _ _ _ _ _ _ q1
      have hmet := x_met ih hbb (d := d) hr1 h3' c1
      obtain ⟨a, rest', qz⟩ := xhead_4 (Or.inr rfl) h4
      rw [qz] at hmet hsplit hlenas
      rw [c11] at hmet c2
      exact fin (va_runIN (As := rest'.map (xv base b)) (b := base + a) (nL := (xMet G M).2.2.1) (Ts := Ts) (n := k - 1) ⟨hx, hb, hml, hown, hts⟩ hmet ⟨va_cnB (k - 1) hts (hgi c2) rfl rfl rfl (hN _ c8) (hts _ c3) ⟨c4.1, c4.2, c6⟩ ⟨hfr, by show 8 + ((xMet G N).2.2.1 + 11) + 64 * d ≤ R.locals; omega⟩, c9, hts _ c10⟩ ⟨xPc_blind _ _, fun U hU hW => ⟨rfl, by rw [hU]; exact hw, by rw [hU]; exact va_X.moved hW.alike hX, va_K.moved hW.alike hK, hN.warm hW⟩⟩ rfl (by rw [List.length_map]; simp only [List.length_cons] at hlenas; omega) hl (by rw [hsplit]; simp [xv]) hroom hd ⟨hc, hsl⟩)
    · cases h4
end XSD
end
section
section XMN
variable {l : Launch} {base b : Nat} {D : va_G} {cl : List vw_C} {dA : FieldType → ClassId} {Ts : List Cond} {Ns : xNs} {G : xG} {sc : xS}
set_option maxHeartbeats 8000000 in
/-- THE EVALUATOR IS SOUND -/
theorem x_sound (hG : xOK G cl Ts) (hM : xOKm G cl Ts Ns) : ∀ n, xSnd G Ts Ns D cl dA base b sc l n := by
  intro n
  induction n with
  | zero =>
    intro d M pc L st h r hr
    cases hr
  | succ n ih =>
    intro d M pc L st h r hr p e s m args below meth c R H locs cells slots Q ls hA hs hw hX hlc hl hcR hsR hdR hlR hret
    obtain ⟨hx, hb, hml, hown, hts, hK, hin, hbb, hN⟩ := id hA
    rw [xev] at hr
    split at hr
    · cases hr
    · rename_i i hi
      obtain ⟨nn, hdec, hlen⟩ := hG.1 M pc i hi
      split at hr
      · split at hr
        · rename_i st' q
          obtain ⟨z1, z2⟩ := xs1_len q
          obtain rfl := x_n hlen z1 z2
          exact xs1_ok hx hb hdec q (ih d M _ L st' h r hr p e s m args below meth c R H locs cells slots Q ls hA hs hw hX hlc hl hcR hsR hdR hlR hret)
        · cases hr
      · split at hr
        · rename_i st' q
          obtain ⟨z1, z2⟩ := xs1d_len q
          obtain rfl := x_n hlen z1 z2
          exact xs1d_ok hx hb hdec q (ih d M _ L st' h r hr p e s m args below meth c R H locs cells slots Q ls hA hs hw hX hlc hl hcR hsR hdR hlR hret)
        · cases hr
      · split at hr
        · rename_i L' st' q
          have z1 := xs2_len q
          obtain rfl := x_n hlen z1 rfl
          exact xs2_ok hx hb hown (fun k v z => hts _ (hG.2.2.2.2.1 _ _ _ z)) (fun k v z => hts _ (hG.2.2.2.2.2.1 _ _ _ z)) hdec hl q (fun ls' hl' => ih d M _ L' st' h r hr p e s m args below meth c R H locs cells slots Q ls' hA hs hw hX hlc hl' hcR hsR hdR hlR hret)
        · cases hr
      · split at hr
        · rename_i pc' st' q
          exact xs3_ok hx hb hdec hlen q (ih d M pc' L st' h r hr p e s m args below meth c R H locs cells slots Q ls hA hs hw hX hlc hl hcR hsR hdR hlR hret)
        · cases hr
      · split at hr
        · rename_i st' h' q
          have z1 := xs4_len q
          obtain rfl := x_n hlen z1 rfl
          exact xs4_ok hG hx hb hown hts hK hin hbb hdec hX hs hw hlc q (fun H' locs' e1 hw' hX' hlc' => ih d M _ L st' h' r hr p e s m args below meth c R H' locs' cells slots Q ls hA (by rw [e1]; exact hs) hw' hX' hlc' hl hcR hsR hdR hlR hret)
        · cases hr
      · split at hr
        · split at hr
          · rename_i q
            obtain ⟨z1, z2⟩ := xret_len q
            obtain rfl := x_n hlen z1 z2
            cases hr
            exact hret pc ls i H locs hdec q hs hw hX hlc
          · cases hr
        · split at hr
          · rename_i q
            obtain ⟨z1, z2⟩ := xret_len q
            obtain rfl := x_n hlen z1 z2
            cases hr
            exact hret pc ls i H locs hdec q hs hw hX hlc
          · cases hr
        · cases hr
      · split at hr
        · rename_i k
          split at hr
          · rename_i ci q
            obtain rfl : nn = 3 := x_n hlen rfl rfl
            obtain ⟨v, h', a1, a2, e1, rfl⟩ := xadd_some hr
            obtain ⟨C, T, N, ty, hc, hwi, hty, hcl, hins, hini, hln, hmp, hdf⟩ := hG.2.2.2.1 _ _ _ q
            have k1 : cells + (1 + a1) ≤ R.cells := hcR
            have k2 : slots + ((xDfl G ci).length + a2) ≤ R.slots := hsR
            refine va_new (ci := ci) (fs := xDfl G ci) (C := C) (T := T) (N := N) hx hb hts hwi ty hty hown (hts _ hcl) (hts _ hins) (hts _ hini) hK hw.2 (xw_D dA base b h) (x_sS hlc) (fun q z => by have := hw.1; show base ≤ q; omega) hc hdf (by omega) (by omega) hdec ?_
            intro q H1 hP1 hD1 hS1
            refine x_room (n := base + (h.length + 1)) (by omega) (fun hsz => ?_)
            obtain ⟨e2, e3⟩ := x_fresh hsz hP1 hD1
            subst e2
            have hw1 : xW D cl dA base b (h ++ [.inr (ci, xDfl G ci)]) H1 := ⟨by rw [e3]; simp, by rw [xw_push]; simp only [xc, hmp]; exact hP1⟩
            have := ih d M (pc + 3) L (.ref h.length :: st) (h ++ [.inr (ci, xDfl G ci)]) _ e1 p e s m args below meth c R H1 locs (cells + 1) (slots + N) Q ls hA (by simp; omega) hw1 (x_X hX hbb (by have := hw.1; omega) hS1) hlc hl (by show cells + 1 + a1 ≤ _; omega) (by show slots + N + a2 ≤ _; omega) hdR hlR (fun pc' ls' i H' locs' u1 u2 u3 u4 u5 u6 => by
              have k3 := hret pc' ls' i H' locs' u1 u2 (by rw [← u3]; show s.heap.size + (cells + (1 + a1)) = s.heap.size + (cells + 1 + a1); omega) u4 u5 u6
              have f1 : cells + (1 + a1) = cells + 1 + a1 := by omega
              have f2 : slots + ((xDfl G ci).length + a2) = slots + N + a2 := by omega
              simp only [f1, f2] at k3
              exact k3)
            exact this
          · cases hr
        · cases hr
      · split at hr
        · rename_i t k r0 hq9
          split at hr
          · cases hr
          · rename_i q0
            have q1 : ¬ k < 0 := fun z => q0 (Or.inl z)
            have q2 : k.toNatClampNeg ≤ 1000000 := Nat.not_lt.mp (fun z => q0 (Or.inr z))
            split at hr
            · rename_i c0 qn
              obtain rfl : nn = 2 := x_n hlen rfl rfl
              obtain ⟨v, h', a1, a2, e1, rfl⟩ := xadd_some hr
              have k1 : cells + (1 + a1) ≤ R.cells := hcR
              have k2 : slots + (k.toNatClampNeg + a2) ≤ R.slots := hsR
              have fin : ∀ (ty : FieldType) (x : vp_A), c0 = .inl (ty, x) → xprim ty = true → newarray.typeOf t = ty → (∀ cA : ClassId, vp_cell cA x = arrV cA k.toNatClampNeg (fun _ => defaultValue ty)) → k.toNatClampNeg * componentBytes ty ≤ 536870912 → Cond.arrayClass ty ∈ Ts → W p l e R s m args below meth c H locs cells slots Q (F0 m pc ls ((.int k :: r0).map (xv base b))) := by
                intro ty x hc0 hpr hty hcell hby hac
                subst hc0
                refine va_newa (atype := t) (ty := ty) (n := k) (N' := k.toNatClampNeg) (a0 := x) hx hb (by rw [hty]; exact hts _ hac) hty hK hw.2 (xw_D dA base b h) (x_sS hlc) (fun q z => by have := hw.1; show base ≤ q; omega) hcell q1 rfl hby (by omega) (by omega) hdec ?_
                intro q cA H1 hK1 hP1 hD1 hS1
                obtain rfl := x_arrEq hpr hK hK1
                refine x_room (n := base + (h.length + 1)) (by omega) (fun hsz => ?_)
                obtain ⟨e2, e3⟩ := x_fresh hsz hP1 hD1
                subst e2
                have hw1 : xW D cl dA base b (h ++ [.inl (ty, x)]) H1 := ⟨by rw [e3]; simp, by rw [xw_push]; exact hP1⟩
                exact ih d M (pc + 2) L (.ref h.length :: r0) (h ++ [.inl (ty, x)]) _ e1 p e s m args below meth c R H1 locs (cells + 1) (slots + k.toNatClampNeg) Q ls hA (by simp; omega) hw1 (x_X hX hbb (by have := hw.1; omega) hS1) hlc hl (by show cells + 1 + a1 ≤ _; omega) (by show slots + k.toNatClampNeg + a2 ≤ _; omega) hdR hlR (fun pc' ls' i H' locs' u1 u2 u3 u4 u5 u6 => by
                  have k3 := hret pc' ls' i H' locs' u1 u2 (by rw [← u3]; show s.heap.size + (cells + (1 + a1)) = s.heap.size + (cells + 1 + a1); omega) u4 u5 u6
                  have f1 : cells + (1 + a1) = cells + 1 + a1 := by omega
                  have f2 : slots + (k.toNatClampNeg + a2) = slots + k.toNatClampNeg + a2 := by omega
                  simp only [f1, f2] at k3
                  exact k3)
              obtain ⟨w1, w2, w3, w4⟩ := hG.2.2.2.2.2.2.1
              cases t with
              | int => cases qn; exact fin .int _ rfl rfl rfl (fun cA => rfl) (by show _ * 4 ≤ _; omega) w1
              | long => cases qn; exact fin .long _ rfl rfl rfl (fun cA => rfl) (by show _ * 8 ≤ _; omega) w2
              | byte => cases qn; exact fin .byte _ rfl rfl rfl (fun cA => rfl) (by show _ * 1 ≤ _; omega) w3
              | boolean => cases qn; exact fin .boolean _ rfl rfl rfl (fun cA => rfl) (by show _ * 1 ≤ _; omega) w4
              | _ => cases qn
            · cases hr
        · cases hr
      · split at hr
        · rename_i d' kind N k ci qk
          obtain ⟨z1, z2⟩ := xlink_len qk
          obtain rfl := x_n hlen z1 z2
          split at hr
          · split at hr
            · rename_i a0 r0
              split at hr
              · cases hr
              · rename_i q8
                rcases xlink_in qk with ⟨idx, _, zk, _⟩ | ⟨idx, _, zk, _⟩ | ⟨idx, rfl, _, q1⟩
                · cases zk
                · rcases zk with zk | zk | zk <;> cases zk
                · obtain ⟨c1, c2, c3⟩ := hM _ _ _ _ _ _ q1
                  exact W.objInit hx hb hown (hts _ c1) (hts _ c2) (hts _ c3) rfl (by rw [hml]; exact hl.1) rfl hdec (by omega) (by have := lv_room (m := m) (pc := pc) (ls := ls) (rest := ((.ref a0 :: r0).map (xv base b))) (x_rest (base := base) (b := b) r0 q8); omega) (ih (d' + 1) M (pc + 3) L r0 h r hr p e s m args below meth c R H locs cells slots Q ls hA hs hw hX hlc hl hcR hsR hdR hlR hret)
            · cases hr
          · split at hr
            · rename_i st' h' q
              rcases xlink_in qk with ⟨idx, _, zk, _⟩ | ⟨idx, rfl, _, q1⟩ | ⟨idx, _, zk, _⟩
              · cases zk
              · obtain ⟨c1, c2, c3, c4⟩ := hM _ _ _ _ _ _ q1
                exact xcopy_ok hx hb (by rw [hml]; exact hl.1.symm) hown (hts _ c1) (hts _ c2) (hts _ c3) (hts _ c4) hK hbb hdec hX hs hw hlc (by omega) (by omega) q (fun H' locs' e1 hw' hX' hlc' => ih (d' + 1) M _ L st' h' r hr p e s m args below meth c R H' locs' cells slots Q ls hA (by rw [e1]; exact hs) hw' hX' hlc' hl hcR hsR hdR hlR hret)
              · rcases zk with zk | zk | zk <;> cases zk
            · cases hr
          · split at hr
            · rename_i y x r0
              split at hr
              · cases hr
              · rename_i q8
                rcases xlink_in qk with ⟨idx, _, zk, _⟩ | ⟨idx, rfl, _, q1⟩ | ⟨idx, _, zk, _⟩
                · cases zk
                · obtain ⟨c1, c2, c3, c4⟩ := hM _ _ _ _ _ _ q1
                  have q9 := x_rest (base := base) (b := b) r0 q8
                  exact va_mmax hx hb (by rw [hml]; exact hl.1.symm) hown (hts _ c1) (hts _ c2) (hts _ c3) (hts _ c4) (by omega) (by omega) (by omega) (by omega) hdec (ih (d' + 1) M (pc + 3) L (.int (if x < y then y else x) :: r0) h r hr p e s m args below meth c R H locs cells slots Q ls hA hs hw hX hlc hl hcR hsR hdR hlR hret)
                · rcases zk with zk | zk | zk <;> cases zk
            · cases hr
          · split at hr
            · cases hr
            · rename_i q0
              split at hr
              · rename_i v h' a1 a2 qe
                obtain ⟨v2, h2, b1, b2, e2, rfl⟩ := xadd_some hr
                have k1 : cells + (a1 + b1) ≤ R.cells := hcR
                have k2 : slots + (a2 + b2) ≤ R.slots := hsR
                refine xcall_ok hG hM ih hA hdec qk (fun z => q0 (Or.inl z)) (fun z => q0 (Or.inr (Or.inl z))) (fun z => q0 (Or.inr (Or.inr (Or.inl z)))) ?_ qe hX hw hlc hl.1 hdR hlR (by show cells + a1 ≤ _; omega) (by show slots + a2 ≤ _; omega) ?_
                · cases zz : xhead kind ci (st.take k).reverse h with
                  | true => rfl
                  | false => exact absurd (Or.inr (Or.inr (Or.inr zz))) q0
                · intro H' locs' e1 hw' hX' hlc'
                  have e1' : h.length + a1 = h'.length := e1
                  refine ih (d' + 1) M (pc + 3) L (v.toList ++ st.drop k) h' _ e2 p e s m args below meth c R H' locs' (cells + a1) (slots + a2) Q ls hA (by omega) hw' hX' hlc' hl (by show cells + a1 + b1 ≤ _; omega) (by show slots + a2 + b2 ≤ _; omega) hdR hlR (fun pc' ls' i H' locs' u1 u2 u3 u4 u5 u6 => ?_)
                  have k3 := hret pc' ls' i H' locs' u1 u2 (by rw [← u3]; show s.heap.size + (cells + (a1 + b1)) = s.heap.size + (cells + a1 + b1); omega) u4 u5 u6
                  have f1 : cells + (a1 + b1) = cells + a1 + b1 := by omega
                  have f2 : slots + (a2 + b2) = slots + a2 + b2 := by omega
                  simp only [f1, f2] at k3
                  exact k3
              · cases hr
        · cases hr
      · cases hr
end XMN
end
section
section XMO
variable {G : xG} {sc : xS}
set_option maxHeartbeats 4000000 in
/-- more fuel, the same run -/
theorem xev_mono : ∀ (n d M pc : Nat) (L : xL) (st : List Value) (h : xH) (r : xR), xev G sc n d M pc L st h = some r → xev G sc (n + 1) d M pc L st h = some r := by
  intro n
  induction n with
  | zero =>
    intro d M pc L st h r hr
    cases hr
  | succ n ih =>
    intro d M pc L st h r hr
    rw [xev] at hr
    rw [xev]
    split at hr
    · cases hr
    · rename_i i hi
      split at hr
      · rename_i hs
        split at hr
        · rename_i st' q
          try simp only [hs, q]
          exact ih _ _ _ _ _ _ _ hr
        · cases hr
      · rename_i hs
        split at hr
        · rename_i st' q
          try simp only [hs, q]
          exact ih _ _ _ _ _ _ _ hr
        · cases hr
      · rename_i hs
        split at hr
        · rename_i L' st' q
          try simp only [hs, q]
          exact ih _ _ _ _ _ _ _ hr
        · cases hr
      · rename_i hs
        split at hr
        · rename_i pc' st' q
          try simp only [hs, q]
          exact ih _ _ _ _ _ _ _ hr
        · cases hr
      · rename_i hs
        split at hr
        · rename_i st' h' q
          try simp only [hs, q]
          exact ih _ _ _ _ _ _ _ hr
        · cases hr
      · rename_i hs
        try simp only [hs]
        exact hr
      · rename_i hs
        try simp only [hs]
        split at hr
        · split at hr
          · rename_i ci q
            obtain ⟨v, h', a1, a2, e1, rfl⟩ := xadd_some hr
            try simp only [q, ih _ _ _ _ _ _ _ e1]
            rfl
          · cases hr
        · cases hr
      · rename_i hs
        try simp only [hs]
        split at hr
        · split at hr
          · cases hr
          · rename_i q0
            split at hr
            · rename_i c0 qn
              obtain ⟨v, h', a1, a2, e1, rfl⟩ := xadd_some hr
              try simp only [q0, if_false, qn, ih _ _ _ _ _ _ _ e1]
              rfl
            · cases hr
        · cases hr
      · rename_i hs
        try simp only [hs]
        split at hr
        · rename_i d' kind N k ci qk
          try simp only [qk]
          split at hr
          · split at hr
            · split at hr
              · cases hr
              · rename_i q8
                try simp only [q8, if_false]
                exact ih _ _ _ _ _ _ _ hr
            · cases hr
          · split at hr
            · rename_i st' h' q
              try simp only [q]
              exact ih _ _ _ _ _ _ _ hr
            · cases hr
          · split at hr
            · split at hr
              · cases hr
              · rename_i q8
                try simp only [q8, if_false]
                exact ih _ _ _ _ _ _ _ hr
            · cases hr
          · split at hr
            · cases hr
            · rename_i q0
              split at hr
              · rename_i v h' a1 a2 qe
                obtain ⟨v2, h2, b1, b2, e2, rfl⟩ := xadd_some hr
                try simp only [q0, if_false, ih _ _ _ _ _ _ _ qe, ih _ _ _ _ _ _ _ e2]
                rfl
              · cases hr
        · cases hr
      · cases hr
theorem xev_le {n k d M pc : Nat} {L : xL} {st : List Value} {h : xH} {r : xR} (hr : xev G sc n d M pc L st h = some r) (hk : n ≤ k) : xev G sc k d M pc L st h = some r := by
  induction k with
  | zero => rw [Nat.le_zero.mp hk] at hr; exact hr
  | succ k ih =>
    rcases Nat.lt_or_ge n (k + 1) with z | z
    · exact xev_mono _ _ _ _ _ _ _ _ (ih (by omega))
    · rw [show k + 1 = n by omega]; exact hr
end XMO
/-- there is a run from here, and what it leaves is so -/
def xT (G : xG) (sc : xS) (d M pc : Nat) (L : xL) (st : List Value) (h : xH) (Q : xR → Prop) : Prop := ∃ n r, xev G sc n d M pc L st h = some r ∧ Q r
section XTR
variable {G : xG} {sc : xS} {d M pc : Nat} {L : xL} {st : List Value} {h : xH} {Q : xR → Prop}
theorem tPost {Q' : xR → Prop} (k : xT G sc d M pc L st h Q') (hq : ∀ r, Q' r → Q r) : xT G sc d M pc L st h Q := by
  obtain ⟨n, r, h1, h2⟩ := k
  exact ⟨n, r, h1, hq r h2⟩
theorem tS1 {i : Instr} (hi : xIns G M pc = some i) (hs : xsort i = 1) {st' : List Value} (h1 : xs1 i st = some st') (k : xT G sc d M (pc + 1) L st' h Q) : xT G sc d M pc L st h Q := by
  obtain ⟨n, r, k1, k2⟩ := k
  exact ⟨n + 1, r, by rw [xev]; simp only [hi, hs, h1]; exact k1, k2⟩
theorem tS1d {i : Instr} (hi : xIns G M pc = some i) (hs : xsort i = 2) {st' : List Value} (h1 : xs1d i st = some st') (k : xT G sc d M (pc + 1) L st' h Q) : xT G sc d M pc L st h Q := by
  obtain ⟨n, r, k1, k2⟩ := k
  exact ⟨n + 1, r, by rw [xev]; simp only [hi, hs, h1]; exact k1, k2⟩
theorem tS2 {i : Instr} (hi : xIns G M pc = some i) (hs : xsort i = 3) {L' : xL} {st' : List Value} (h1 : xs2 (xCon G M) (xMet G M).2.2.1 i L st = some (L', st')) {pc' : Nat} (hp : pc + xlen i = pc') (k : xT G sc d M pc' L' st' h Q) : xT G sc d M pc L st h Q := by
  obtain ⟨n, r, k1, k2⟩ := k
  subst hp
  exact ⟨n + 1, r, by rw [xev]; simp only [hi, hs, h1]; exact k1, k2⟩
theorem tS3 {i : Instr} (hi : xIns G M pc = some i) (hs : xsort i = 4) {pc' : Nat} {st' : List Value} (h1 : xs3 pc i st = some (pc', st')) (k : xT G sc d M pc' L st' h Q) : xT G sc d M pc L st h Q := by
  obtain ⟨n, r, k1, k2⟩ := k
  exact ⟨n + 1, r, by rw [xev]; simp only [hi, hs, h1]; exact k1, k2⟩
theorem tS4 {i : Instr} (hi : xIns G M pc = some i) (hs : xsort i = 5) {st' : List Value} {h' : xH} (h1 : xs4 (xFld G M) (xPut G M) sc i st h = some (st', h')) {pc' : Nat} (hp : pc + xlen i = pc') (k : xT G sc d M pc' L st' h' Q) : xT G sc d M pc L st h Q := by
  obtain ⟨n, r, k1, k2⟩ := k
  subst hp
  exact ⟨n + 1, r, by rw [xev]; simp only [hi, hs, h1]; exact k1, k2⟩
theorem tR0 {i : Instr} (hi : xIns G M pc = some i) (hs : xsort i = 6) (h1 : xret i (xMet G M).2.2.2 none = true) (k : Q (none, h, 0, 0)) : xT G sc d M pc L [] h Q :=
  ⟨1, _, by rw [xev]; simp only [hi, hs, h1, if_true], k⟩
theorem tR1 {i : Instr} (hi : xIns G M pc = some i) (hs : xsort i = 6) {v : Value} (h1 : xret i (xMet G M).2.2.2 (some v) = true) (k : Q (some v, h, 0, 0)) : xT G sc d M pc L [v] h Q :=
  ⟨1, _, by rw [xev]; simp only [hi, hs, h1, if_true], k⟩
/-- an if: both ways -/
theorem tIf0 {q : ClassFile.Cond} {off : Int} {t : Nat} {x : Int32} (hi : xIns G M pc = some (.ifCond q off)) (hj : xjmp pc off = some t) (kt : xcond q x 0 = true → xT G sc d M t L st h Q) (kf : xcond q x 0 = false → xT G sc d M (pc + 3) L st h Q) : xT G sc d M pc L (.int x :: st) h Q := by
  cases hc : xcond q x 0 with
  | true => exact tS3 hi rfl (by simp only [xs3, hj, hc, if_true]) (kt hc)
  | false => exact tS3 hi rfl (by simp only [xs3, hj, hc, Bool.false_eq_true, if_false]) (kf hc)
theorem tIf2 {q : ClassFile.Cond} {off : Int} {t : Nat} {x y : Int32} (hi : xIns G M pc = some (.if_icmp q off)) (hj : xjmp pc off = some t) (kt : xcond q x y = true → xT G sc d M t L st h Q) (kf : xcond q x y = false → xT G sc d M (pc + 3) L st h Q) : xT G sc d M pc L (.int y :: .int x :: st) h Q := by
  cases hc : xcond q x y with
  | true => exact tS3 hi rfl (by simp only [xs3, hj, hc, if_true]) (kt hc)
  | false => exact tS3 hi rfl (by simp only [xs3, hj, hc, Bool.false_eq_true, if_false]) (kf hc)
theorem tIf0T {q : ClassFile.Cond} {off : Int} {t : Nat} {x : Int32} (hi : xIns G M pc = some (.ifCond q off)) (hj : xjmp pc off = some t) (hc : xcond q x 0 = true) (kt : xT G sc d M t L st h Q) : xT G sc d M pc L (.int x :: st) h Q := tS3 hi rfl (by simp only [xs3, hj, hc, if_true]) kt
theorem tIf0F {q : ClassFile.Cond} {off : Int} {t : Nat} {x : Int32} (hi : xIns G M pc = some (.ifCond q off)) (hj : xjmp pc off = some t) (hc : xcond q x 0 = false) (kt : xT G sc d M (pc + 3) L st h Q) : xT G sc d M pc L (.int x :: st) h Q := tS3 hi rfl (by simp only [xs3, hj, hc, Bool.false_eq_true, if_false]) kt
theorem tIf2T {q : ClassFile.Cond} {off : Int} {t : Nat} {x y : Int32} (hi : xIns G M pc = some (.if_icmp q off)) (hj : xjmp pc off = some t) (hc : xcond q x y = true) (kt : xT G sc d M t L st h Q) : xT G sc d M pc L (.int y :: .int x :: st) h Q := tS3 hi rfl (by simp only [xs3, hj, hc, if_true]) kt
theorem tIf2F {q : ClassFile.Cond} {off : Int} {t : Nat} {x y : Int32} (hi : xIns G M pc = some (.if_icmp q off)) (hj : xjmp pc off = some t) (hc : xcond q x y = false) (kt : xT G sc d M (pc + 3) L st h Q) : xT G sc d M pc L (.int y :: .int x :: st) h Q := tS3 hi rfl (by simp only [xs3, hj, hc, Bool.false_eq_true, if_false]) kt
theorem tGo {off : Int} {t : Nat} (hi : xIns G M pc = some (.goto off)) (hj : xjmp pc off = some t) (k : xT G sc d M t L st h Q) : xT G sc d M pc L st h Q := tS3 hi rfl (by simp only [xs3, hj, Option.map_some]) k
theorem tNew {k0 ci : Nat} {n : Nat} (hi : xIns G M pc = some (.new k0)) (hc : xCls G M k0 = some ci) (hn : h.length = n) (k : xT G sc d M (pc + 3) L (.ref n :: st) (h ++ [.inr (ci, xDfl G ci)]) (fun r => Q (r.1, r.2.1, 1 + r.2.2.1, (xDfl G ci).length + r.2.2.2))) : xT G sc d M pc L st h Q := by
  obtain ⟨n', ⟨v, h', a, b⟩, k1, k2⟩ := k
  subst hn
  exact ⟨n' + 1, _, by rw [xev]; simp only [hi, xsort, hc, k1, xadd], k2⟩
theorem tNewA {t : ArrayType} {k0 : Int32} {n N : Nat} {c : xE} (hi : xIns G M pc = some (.newarray t)) (hk : ¬ (k0 < 0 ∨ 1000000 < k0.toNatClampNeg)) (hN : k0.toNatClampNeg = N) (hc : xnew t N = some c) (hn : h.length = n) (k : xT G sc d M (pc + 2) L (.ref n :: st) (h ++ [c]) (fun r => Q (r.1, r.2.1, 1 + r.2.2.1, N + r.2.2.2))) : xT G sc d M pc L (.int k0 :: st) h Q := by
  obtain ⟨n', ⟨v, h', a, b⟩, k1, k2⟩ := k
  subst hn
  subst hN
  exact ⟨n' + 1, _, by rw [xev]; simp only [hi, xsort, hk, if_false, hc, k1, xadd], k2⟩
/-- a call: the callee's run, then the rest -/
theorem tCall {i : Instr} {kind N k0 ci : Nat} {as rest : List Value} (hi : xIns G M pc = some i) (hs : xsort i = 9) (hl : xlink (xMth G M) i = some (kind, N, k0, ci)) (hk : kind = 0 ∨ kind = 1 ∨ kind = 4 ∨ kind = 5) (ha : (st.take k0).reverse = as) (hr : st.drop k0 = rest) (h1 : k0 ≤ st.length) (h2 : (rest.map (fun v => v.category)).sum ≤ 8) (h3 : (lg_sl as).length ≤ (xMet G N).2.2.1) (h4 : xhead kind ci as h = true)
    (k : xT G sc d N 0 (lv_args 0 as) [] h (fun r => xT G sc (d + 1) M (pc + 3) L (r.1.toList ++ rest) r.2.1 (fun r2 => Q (r2.1, r2.2.1, r.2.2.1 + r2.2.2.1, r.2.2.2 + r2.2.2.2)))) : xT G sc (d + 1) M pc L st h Q := by
  obtain ⟨n1, ⟨v, h', a, b⟩, k1, n2, ⟨v2, h2', a2, b2⟩, k2, k3⟩ := k
  subst ha
  subst hr
  have e1 := xev_le k1 (Nat.le_max_left n1 n2)
  have e2 := xev_le k2 (Nat.le_max_right n1 n2)
  have hno : ¬ (st.length < k0 ∨ 8 < ((st.drop k0).map (fun v => v.category)).sum ∨ (xMet G N).2.2.1 < (lg_sl (st.take k0).reverse).length ∨ xhead kind ci (st.take k0).reverse h = false) := by
    rintro (z | z | z | z)
    · omega
    · omega
    · omega
    · rw [h4] at z; cases z
  refine ⟨max n1 n2 + 1, _, ?_, k3⟩
  rw [xev]
  simp only [hi, hs, hl]
  rcases hk with rfl | rfl | rfl | rfl <;> simp only [hno, if_false, e1, e2, xadd]
theorem tObj {k0 N na ci a : Nat} (hi : xIns G M pc = some (.invokespecial k0)) (hl : xMth G M k0 = some (6, N, na, ci)) (h2 : (st.map (fun v => v.category)).sum ≤ 8) (k : xT G sc (d + 1) M (pc + 3) L st h Q) : xT G sc (d + 1) M pc L (.ref a :: st) h Q := by
  obtain ⟨n, r, k1, k2⟩ := k
  have hno : ¬ 8 < (st.map (fun v => v.category)).sum := by omega
  exact ⟨n + 1, r, by rw [xev]; simp only [hi, xsort, xlink, hl, hno, if_false]; exact k1, k2⟩
theorem tCopy {k0 N na ci : Nat} (hi : xIns G M pc = some (.invokestatic k0)) (hl : xMth G M k0 = some (7, N, na, ci)) {st' : List Value} {h' : xH} (hc : xcopy st h = some (st', h')) (k : xT G sc (d + 1) M (pc + 3) L st' h' Q) : xT G sc (d + 1) M pc L st h Q := by
  obtain ⟨n, r, k1, k2⟩ := k
  exact ⟨n + 1, r, by rw [xev]; simp only [hi, xsort, xlink, hl, hc]; exact k1, k2⟩
theorem tMax {k0 N na ci : Nat} {x y : Int32} (hi : xIns G M pc = some (.invokestatic k0)) (hl : xMth G M k0 = some (8, N, na, ci)) (h2 : (st.map (fun v => v.category)).sum ≤ 8) (k : xT G sc (d + 1) M (pc + 3) L (.int (if x < y then y else x) :: st) h Q) : xT G sc (d + 1) M pc L (.int y :: .int x :: st) h Q := by
  obtain ⟨n, r, k1, k2⟩ := k
  have hno : ¬ 8 < (st.map (fun v => v.category)).sum := by omega
  exact ⟨n + 1, r, by rw [xev]; simp only [hi, xsort, xlink, hl, hno, if_false]; exact k1, k2⟩
theorem tTop {x v : Int32} (e : x = v) (k : xT G sc d M pc L (.int v :: st) h Q) : xT G sc d M pc L (.int x :: st) h Q := e ▸ k
theorem tTopL {x v : Int64} (e : x = v) (k : xT G sc d M pc L (.long v :: st) h Q) : xT G sc d M pc L (.long x :: st) h Q := e ▸ k
theorem tLoc {L' : xL} (e : L = L') (k : xT G sc d M pc L' st h Q) : xT G sc d M pc L st h Q := e ▸ k
theorem tHeap {h' : xH} (e : h = h') (k : xT G sc d M pc L st h' Q) : xT G sc d M pc L st h Q := e ▸ k
end XTR
end
section
abbrev vwCl : List vw_C := [(RX1, TX1, 2), (RX2, TX2, 8), (RX3, TX3, 3), (RX4, TX4, 5), (RX5, TX5, 8), (RX6, TX6, 12), (RX7, TX7, 14), (RX8, TX8, 69)]
def xcn : List String := ["LateRowsLaw", "LateRows", "LateRows$Kinds", "LateRows$Printer", "LateRows$Reader", "LateRows$Sheets", "LateRows$Teller", "LateRows$Texts", "LateRows$Told", "LateRowsModel"]
abbrev xEn : Type := xM × List (List (Nat × Instr)) × Nat × Nat × Bool
def xall_0 : List xEn := [((yL_law, cL_law, 4, (some .boolean)), tL_law, 0, 99, false), ((yX0_allows, cX0_allows, 2, (some .boolean)), tX0_allows, 2, 99, false), ((yX0_hasNumber, cX0_hasNumber, 1, (some .boolean)), tX0_hasNumber, 2, 99, false), ((yX0_rows, cX0_rows, 1, (some .int)), tX0_rows, 2, 99, false), ((yX0_shape, cX0_shape, 1, (some (.object "java/lang/String"))), tX0_shape, 2, 99, false), ((yX0_word, cX0_word, 1, (some (.object "java/lang/String"))), tX0_word, 2, 99, false), ((yX1_init, cX1_init, 1, none), tX1_init, 3, 0, true), ((yX1_writeBlank, cX1_writeBlank, 1, none), tX1_writeBlank, 3, 0, false), ((yX1_writeByte, cX1_writeByte, 2, none), tX1_writeByte, 3, 0, false), ((yX1_writeField, cX1_writeField, 4, none), tX1_writeField, 3, 0, false), ((yX1_writeNum, cX1_writeNum, 8, none), tX1_writeNum, 3, 0, false), ((yX1_writeNums, cX1_writeNums, 4, none), tX1_writeNums, 3, 0, false), ((yX1_writePart, cX1_writePart, 6, none), tX1_writePart, 3, 0, false), ((yX1_writeSign, cX1_writeSign, 2, none), tX1_writeSign, 3, 0, false), ((yX1_writeStream, cX1_writeStream, 5, none), tX1_writeStream, 3, 0, false), ((yX1_writeWord, cX1_writeWord, 3, none), tX1_writeWord, 3, 0, false), ((yX2_addByte, cX2_addByte, 2, (some .int)), tX2_addByte, 4, 1, false), ((yX2_init, cX2_init, 1, none), tX2_init, 4, 1, true), ((yX2_isSign, cX2_isSign, 2, (some .boolean)), tX2_isSign, 4, 1, false), ((yX2_isWord, cX2_isWord, 5, (some .boolean)), tX2_isWord, 4, 1, false), ((yX2_kindOfWord, cX2_kindOfWord, 4, (some .int)), tX2_kindOfWord, 4, 1, false), ((yX2_meaningOf, cX2_meaningOf, 6, (some .int)), tX2_meaningOf, 4, 1, false), ((yX2_miss, cX2_miss, 1, none), tX2_miss, 4, 1, false), ((yX2_readField, cX2_readField, 3, none), tX2_readField, 4, 1, false), ((yX2_readNum, cX2_readNum, 3, (some .int)), tX2_readNum, 4, 1, false), ((yX2_readNumber, cX2_readNumber, 4, (some .int)), tX2_readNumber, 4, 1, false), ((yX2_readNums, cX2_readNums, 4, none), tX2_readNums, 4, 1, false), ((yX2_readPart, cX2_readPart, 5, none), tX2_readPart, 4, 1, false), ((yX2_readSign, cX2_readSign, 3, (some .int)), tX2_readSign, 4, 1, false), ((yX2_readTape, cX2_readTape, 3, (some .int)), tX2_readTape, 4, 1, false), ((yX2_sortOf, cX2_sortOf, 1, (some .int)), tX2_sortOf, 4, 1, false), ((yX2_splitTape, cX2_splitTape, 6, none), tX2_splitTape, 4, 1, false)]
def xall_1 : List xEn := [((yX3_init, cX3_init, 2, none), tX3_init, 5, 2, true), ((yX3_isMissing, cX3_isMissing, 2, (some .boolean)), tX3_isMissing, 5, 2, false), ((yX3_move, cX3_move, 6, none), tX3_move, 5, 2, false), ((yX3_read, cX3_read, 3, (some .long)), tX3_read, 5, 2, false), ((yX3_renew, cX3_renew, 5, none), tX3_renew, 5, 2, false), ((yX3_spans, cX3_spans, 4, (some .boolean)), tX3_spans, 5, 2, false), ((yX3_write, cX3_write, 7, none), tX3_write, 5, 2, false), ((yX4_addUp, cX4_addUp, 7, (some .int)), tX4_addUp, 6, 3, false), ((yX4_askHead, cX4_askHead, 6, (some .int)), tX4_askHead, 6, 3, false), ((yX4_askPlace, cX4_askPlace, 6, (some .int)), tX4_askPlace, 6, 3, false), ((yX4_begin, cX4_begin, 3, none), tX4_begin, 6, 3, false), ((yX4_beginsRun, cX4_beginsRun, 1, (some .boolean)), tX4_beginsRun, 6, 3, false), ((yX4_behindNames, cX4_behindNames, 5, (some .int)), tX4_behindNames, 6, 3, false), ((yX4_combine, cX4_combine, 6, (some .int)), tX4_combine, 6, 3, false), ((yX4_firstUnlike, cX4_firstUnlike, 9, (some .int)), tX4_firstUnlike, 6, 3, false), ((yX4_gather, cX4_gather, 6, (some .int)), tX4_gather, 6, 3, false), ((yX4_init, cX4_init, 3, none), tX4_init, 6, 3, true), ((yX4_isThere, cX4_isThere, 3, (some .int)), tX4_isThere, 6, 3, false), ((yX4_mergePlace, cX4_mergePlace, 14, (some .int)), tX4_mergePlace, 6, 3, false), ((yX4_outcome, cX4_outcome, 4, (some .int)), tX4_outcome, 6, 3, false), ((yX4_passes, cX4_passes, 5, (some .int)), tX4_passes, 6, 3, false), ((yX4_passesOwnHeads, cX4_passesOwnHeads, 7, (some .int)), tX4_passesOwnHeads, 6, 3, false), ((yX4_placeOf, cX4_placeOf, 7, (some .int)), tX4_placeOf, 6, 3, false), ((yX4_rising, cX4_rising, 6, (some .int)), tX4_rising, 6, 3, false), ((yX4_seekPlace, cX4_seekPlace, 6, (some .int)), tX4_seekPlace, 6, 3, false), ((yX4_seeks, cX4_seeks, 2, (some .boolean)), tX4_seeks, 6, 3, false), ((yX4_tellHead, cX4_tellHead, 10, (some .int)), tX4_tellHead, 6, 3, false), ((yX4_tellNumber, cX4_tellNumber, 3, (some .int)), tX4_tellNumber, 6, 3, false), ((yX4_tellPlace, cX4_tellPlace, 6, (some .int)), tX4_tellPlace, 6, 3, false), ((yX5_allParts, cX5_allParts, 3, (some .int)), tX5_allParts, 7, 4, false), ((yX5_clearPart, cX5_clearPart, 3, none), tX5_clearPart, 7, 4, false), ((yX5_close, cX5_close, 8, none), tX5_close, 7, 4, false)]
def xall_2 : List xEn := [((yX5_filledStreams, cX5_filledStreams, 3, (some .int)), tX5_filledStreams, 7, 4, false), ((yX5_firstRow, cX5_firstRow, 2, (some .int)), tX5_firstRow, 7, 4, false), ((yX5_init, cX5_init, 3, none), tX5_init, 7, 4, true), ((yX5_secondRow, cX5_secondRow, 2, (some .int)), tX5_secondRow, 7, 4, false), ((yX5_takeAll, cX5_takeAll, 3, none), tX5_takeAll, 7, 4, false), ((yX5_takeParts, cX5_takeParts, 5, none), tX5_takeParts, 7, 4, false), ((yX5_takeStream, cX5_takeStream, 4, none), tX5_takeStream, 7, 4, false), ((yX6_allHeads, cX6_allHeads, 3, (some .int)), tX6_allHeads, 8, 5, false), ((yX6_allPlaces, cX6_allPlaces, 3, (some .int)), tX6_allPlaces, 8, 5, false), ((yX6_init, cX6_init, 3, none), tX6_init, 8, 5, true), ((yX6_meet, cX6_meet, 2, none), tX6_meet, 8, 5, false), ((yX6_takeAll, cX6_takeAll, 3, none), tX6_takeAll, 8, 5, false), ((yX6_takePart, cX6_takePart, 5, none), tX6_takePart, 8, 5, false), ((yX6_untell, cX6_untell, 2, none), tX6_untell, 8, 5, false), ((yX6_untellPart, cX6_untellPart, 4, none), tX6_untellPart, 8, 5, false), ((yX7_back, cX7_back, 1, (some .int)), tX7_back, 1, 6, false), ((yX7_copy, cX7_copy, 6, (some .int)), tX7_copy, 1, 6, false), ((yX7_count, cX7_count, 2, (some .int)), tX7_count, 1, 6, false), ((yX7_counted, cX7_counted, 2, (some .int)), tX7_counted, 1, 6, false), ((yX7_differ, cX7_differ, 4, (some .int)), tX7_differ, 1, 6, false), ((yX7_empty, cX7_empty, 3, (some .int)), tX7_empty, 1, 6, false), ((yX7_entry, cX7_entry, 5, (some .long)), tX7_entry, 1, 6, false), ((yX7_feed, cX7_feed, 2, (some .int)), tX7_feed, 1, 6, false), ((yX7_film, cX7_film, 7, (some .int)), tX7_film, 1, 6, false), ((yX7_find, cX7_find, 6, (some .int)), tX7_find, 1, 6, false), ((yX7_forget, cX7_forget, 2, (some .int)), tX7_forget, 1, 6, false), ((yX7_hasPart, cX7_hasPart, 3, (some .boolean)), tX7_hasPart, 1, 6, false), ((yX7_head, cX7_head, 3, (some .long)), tX7_head, 1, 6, false), ((yX7_image, cX7_image, 1, (some .int)), tX7_image, 1, 6, false), ((yX7_init, cX7_init, 1, none), tX7_init, 1, 6, true), ((yX7_is, cX7_is, 4, (some .int)), tX7_is, 1, 6, false), ((yX7_isEmpty, cX7_isEmpty, 2, (some .boolean)), tX7_isEmpty, 1, 6, false)]
def xall_3 : List xEn := [((yX7_isQuestion, cX7_isQuestion, 1, (some .boolean)), tX7_isQuestion, 1, 6, false), ((yX7_isSheet, cX7_isSheet, 1, (some .boolean)), tX7_isSheet, 1, 6, false), ((yX7_isStream, cX7_isStream, 1, (some .boolean)), tX7_isStream, 1, 6, false), ((yX7_isToldBy, cX7_isToldBy, 4, (some .boolean)), tX7_isToldBy, 1, 6, false), ((yX7_item, cX7_item, 3, (some .long)), tX7_item, 1, 6, false), ((yX7_lay, cX7_lay, 8, (some .int)), tX7_lay, 1, 6, false), ((yX7_limit, cX7_limit, 3, (some .int)), tX7_limit, 1, 6, false), ((yX7_need, cX7_need, 4, (some .int)), tX7_need, 1, 6, false), ((yX7_number, cX7_number, 4, (some .long)), tX7_number, 1, 6, false), ((yX7_part, cX7_part, 5, (some .int)), tX7_part, 1, 6, false), ((yX7_print, cX7_print, 3, (some .int)), tX7_print, 1, 6, false), ((yX7_put, cX7_put, 5, (some .int)), tX7_put, 1, 6, false), ((yX7_refusedPlace, cX7_refusedPlace, 3, (some .int)), tX7_refusedPlace, 1, 6, false), ((yX7_refusedRow, cX7_refusedRow, 4, (some .int)), tX7_refusedRow, 1, 6, false), ((yX7_rises, cX7_rises, 3, (some .int)), tX7_rises, 1, 6, false), ((yX7_sheet, cX7_sheet, 4, (some .int)), tX7_sheet, 1, 6, false), ((yX7_sum, cX7_sum, 4, (some .long)), tX7_sum, 1, 6, false), ((yX7_taken, cX7_taken, 5, (some .int)), tX7_taken, 1, 6, false), ((yX7_tellingNumbers, cX7_tellingNumbers, 10, (some .int)), tX7_tellingNumbers, 1, 6, false), ((yX7_tellingStreams, cX7_tellingStreams, 4, (some .int)), tX7_tellingStreams, 1, 6, false), ((yX7_tells, cX7_tells, 5, (some .int)), tX7_tells, 1, 6, false), ((yX7_text, cX7_text, 3, (some .int)), tX7_text, 1, 6, false), ((yX7_there, cX7_there, 4, (some .int)), tX7_there, 1, 6, false), ((yX7_twist, cX7_twist, 6, (some .int)), tX7_twist, 1, 6, false), ((yX8_back, cX8_back, 2, (some .int)), tX8_back, 9, 7, false), ((yX8_begins, cX8_begins, 2, none), tX8_begins, 9, 7, false), ((yX8_byteAt, cX8_byteAt, 2, (some .int)), tX8_byteAt, 9, 7, false), ((yX8_copy, cX8_copy, 9, (some .int)), tX8_copy, 9, 7, false), ((yX8_count, cX8_count, 4, (some .int)), tX8_count, 9, 7, false), ((yX8_cuts, cX8_cuts, 8, (some .int)), tX8_cuts, 9, 7, false), ((yX8_differ, cX8_differ, 11, (some .int)), tX8_differ, 9, 7, false), ((yX8_digits, cX8_digits, 10, none), tX8_digits, 9, 7, false)]
def xall_4 : List xEn := [((yX8_empty, cX8_empty, 3, (some .int)), tX8_empty, 9, 7, false), ((yX8_entry, cX8_entry, 4, (some .long)), tX8_entry, 9, 7, false), ((yX8_fail, cX8_fail, 1, none), tX8_fail, 9, 7, false), ((yX8_feed, cX8_feed, 2, (some .int)), tX8_feed, 9, 7, false), ((yX8_film, cX8_film, 7, (some .int)), tX8_film, 9, 7, false), ((yX8_find, cX8_find, 8, (some .int)), tX8_find, 9, 7, false), ((yX8_followed, cX8_followed, 5, (some .int)), tX8_followed, 9, 7, false), ((yX8_forget, cX8_forget, 2, (some .int)), tX8_forget, 9, 7, false), ((yX8_full, cX8_full, 3, (some .int)), tX8_full, 9, 7, false), ((yX8_gap, cX8_gap, 1, none), tX8_gap, 9, 7, false), ((yX8_groupOf, cX8_groupOf, 1, (some .int)), tX8_groupOf, 9, 7, false), ((yX8_head, cX8_head, 3, (some .long)), tX8_head, 9, 7, false), ((yX8_headAsked, cX8_headAsked, 6, (some .int)), tX8_headAsked, 9, 7, false), ((yX8_image, cX8_image, 2, (some .int)), tX8_image, 9, 7, false), ((yX8_in, cX8_in, 6, (some .boolean)), tX8_in, 9, 7, false), ((yX8_init, cX8_init, 1, none), tX8_init, 9, 7, true), ((yX8_is, cX8_is, 4, (some .int)), tX8_is, 9, 7, false), ((yX8_isFull, cX8_isFull, 2, (some .boolean)), tX8_isFull, 9, 7, false), ((yX8_isLetter, cX8_isLetter, 3, (some .boolean)), tX8_isLetter, 9, 7, false), ((yX8_isNumbered, cX8_isNumbered, 1, (some .boolean)), tX8_isNumbered, 9, 7, false), ((yX8_isPart, cX8_isPart, 3, (some .boolean)), tX8_isPart, 9, 7, false), ((yX8_isSheet, cX8_isSheet, 1, (some .boolean)), tX8_isSheet, 9, 7, false), ((yX8_isSign, cX8_isSign, 2, (some .boolean)), tX8_isSign, 9, 7, false), ((yX8_isSignByte, cX8_isSignByte, 1, (some .boolean)), tX8_isSignByte, 9, 7, false), ((yX8_isSo, cX8_isSo, 6, (some .boolean)), tX8_isSo, 9, 7, false), ((yX8_isStream, cX8_isStream, 1, (some .boolean)), tX8_isStream, 9, 7, false), ((yX8_isWord, cX8_isWord, 6, (some .boolean)), tX8_isWord, 9, 7, false), ((yX8_item, cX8_item, 3, (some .long)), tX8_item, 9, 7, false), ((yX8_joined, cX8_joined, 6, (some .int)), tX8_joined, 9, 7, false), ((yX8_keeps, cX8_keeps, 8, (some .int)), tX8_keeps, 9, 7, false), ((yX8_kindOf, cX8_kindOf, 1, (some .int)), tX8_kindOf, 9, 7, false), ((yX8_kindWord, cX8_kindWord, 3, none), tX8_kindWord, 9, 7, false)]
def xall_5 : List xEn := [((yX8_lay, cX8_lay, 8, (some .int)), tX8_lay, 9, 7, false), ((yX8_laysAside, cX8_laysAside, 2, none), tX8_laysAside, 9, 7, false), ((yX8_laysBack, cX8_laysBack, 2, none), tX8_laysBack, 9, 7, false), ((yX8_limit, cX8_limit, 3, (some .int)), tX8_limit, 9, 7, false), ((yX8_list, cX8_list, 2, none), tX8_list, 9, 7, false), ((yX8_merges, cX8_merges, 12, (some .int)), tX8_merges, 9, 7, false), ((yX8_need, cX8_need, 4, (some .int)), tX8_need, 9, 7, false), ((yX8_next, cX8_next, 3, none), tX8_next, 9, 7, false), ((yX8_num, cX8_num, 2, (some .long)), tX8_num, 9, 7, false), ((yX8_number, cX8_number, 3, (some .long)), tX8_number, 9, 7, false), ((yX8_op, cX8_op, 4, (some .int)), tX8_op, 9, 7, false), ((yX8_other, cX8_other, 2, (some .int)), tX8_other, 9, 7, false), ((yX8_outcome, cX8_outcome, 4, (some .int)), tX8_outcome, 9, 7, false), ((yX8_part, cX8_part, 5, (some .int)), tX8_part, 9, 7, false), ((yX8_passes, cX8_passes, 6, (some .int)), tX8_passes, 9, 7, false), ((yX8_place, cX8_place, 5, (some .int)), tX8_place, 9, 7, false), ((yX8_plain, cX8_plain, 5, (some .long)), tX8_plain, 9, 7, false), ((yX8_print, cX8_print, 3, (some .int)), tX8_print, 9, 7, false), ((yX8_prints, cX8_prints, 5, none), tX8_prints, 9, 7, false), ((yX8_put, cX8_put, 5, (some .int)), tX8_put, 9, 7, false), ((yX8_puts, cX8_puts, 2, none), tX8_puts, 9, 7, false), ((yX8_rises, cX8_rises, 7, (some .int)), tX8_rises, 9, 7, false), ((yX8_row, cX8_row, 3, none), tX8_row, 9, 7, false), ((yX8_sheet, cX8_sheet, 5, (some .int)), tX8_sheet, 9, 7, false), ((yX8_sieved, cX8_sieved, 7, (some .int)), tX8_sieved, 9, 7, false), ((yX8_sum, cX8_sum, 7, (some .long)), tX8_sum, 9, 7, false), ((yX8_taken, cX8_taken, 4, (some .int)), tX8_taken, 9, 7, false), ((yX8_tells, cX8_tells, 13, (some .int)), tX8_tells, 9, 7, false), ((yX8_tellsHead, cX8_tellsHead, 8, (some .int)), tX8_tellsHead, 9, 7, false), ((yX8_tellsPlace, cX8_tellsPlace, 7, (some .int)), tX8_tellsPlace, 9, 7, false), ((yX8_text, cX8_text, 5, (some .int)), tX8_text, 9, 7, false), ((yX8_there, cX8_there, 4, (some .int)), tX8_there, 9, 7, false)]
def xall_6 : List xEn := [((yX8_toldAll, cX8_toldAll, 5, (some .int)), tX8_toldAll, 9, 7, false), ((yX8_toldHeads, cX8_toldHeads, 4, (some .int)), tX8_toldHeads, 9, 7, false), ((yX8_twist, cX8_twist, 5, (some .int)), tX8_twist, 9, 7, false), ((yX8_untells, cX8_untells, 3, none), tX8_untells, 9, 7, false), ((yX8_word, cX8_word, 6, none), tX8_word, 9, 7, false)]
/-- the methods -/
def xent (M : Nat) : Option xEn := match M / 32 with
  | 0 => xall_0[M % 32]?
  | 1 => xall_1[M % 32]?
  | 2 => xall_2[M % 32]?
  | 3 => xall_3[M % 32]?
  | 4 => xall_4[M % 32]?
  | 5 => xall_5[M % 32]?
  | 6 => xall_6[M % 32]?
  | _ => none
def xlF : List (List (Nat × Nat × Nat × Nat)) := [[],
  [(104, 4, 0, 123), (115, 4, 1, 128), (140, 4, 3, 137), (118, 4, 5, 144), (130, 4, 6, 147), (143, 4, 7, 153), (94, 1, 0, 175), (253, 1, 1, 177), (159, 0, 0, 208), (156, 0, 1, 210), (121, 5, 0, 226), (124, 5, 1, 228), (127, 5, 2, 232), (187, 3, 3, 285), (179, 3, 4, 287), (261, 2, 0, 306), (236, 2, 1, 308), (10, 6, 0, 317), (19, 6, 1, 318), (28, 6, 2, 319), (35, 6, 3, 320), (39, 6, 4, 321), (47, 6, 5, 322), (54, 6, 6, 323), (58, 6, 7, 324), (62, 6, 8, 325), (65, 6, 9, 326), (68, 6, 10, 327), (72, 6, 11, 328), (76, 6, 12, 329), (79, 6, 13, 330)],
  [],
  [(19, 4, 0, 122), (28, 4, 1, 126), (65, 4, 2, 131), (31, 4, 3, 135), (68, 4, 4, 140), (78, 4, 6, 146), (81, 4, 7, 151), (11, 0, 0, 207), (15, 0, 1, 209)],
  [(49, 4, 1, 127), (95, 4, 2, 132), (74, 4, 3, 136), (109, 4, 4, 141), (126, 4, 6, 148), (118, 4, 7, 152), (14, 1, 0, 174), (20, 1, 1, 176), (24, 1, 2, 178), (28, 1, 3, 179), (31, 1, 4, 180), (34, 1, 5, 181), (37, 1, 6, 182), (40, 1, 7, 183)],
  [(9, 2, 0, 305), (15, 2, 1, 307), (18, 2, 2, 309)],
  [(96, 4, 0, 124), (69, 4, 1, 129), (108, 4, 2, 133), (94, 4, 3, 138), (128, 4, 4, 142), (102, 4, 6, 149), (135, 4, 7, 154), (41, 5, 0, 225), (91, 5, 1, 229), (47, 5, 2, 231), (50, 5, 3, 234), (115, 5, 4, 236), (125, 5, 5, 238), (80, 5, 6, 240), (87, 5, 7, 242), (122, 5, 8, 244), (22, 3, 0, 281), (26, 3, 1, 282), (9, 3, 2, 283), (15, 3, 3, 284), (18, 3, 4, 286)],
  [(9, 4, 0, 121), (15, 4, 1, 125), (18, 4, 2, 130), (21, 4, 3, 134), (24, 4, 4, 139), (27, 4, 5, 143), (30, 4, 6, 145), (33, 4, 7, 150)],
  [(15, 5, 0, 224), (19, 5, 1, 227), (22, 5, 2, 230), (25, 5, 3, 233), (29, 5, 4, 235), (32, 5, 5, 237), (35, 5, 6, 239), (39, 5, 7, 241), (43, 5, 8, 243), (46, 5, 9, 245), (49, 5, 10, 246), (9, 5, 11, 247)],
  [(13, 7, 1, 958), (17, 7, 2, 959), (20, 7, 3, 960), (23, 7, 4, 961), (26, 7, 5, 962), (30, 7, 6, 963), (33, 7, 7, 964), (36, 7, 8, 965), (39, 7, 9, 966), (42, 7, 10, 967), (45, 7, 11, 968), (48, 7, 12, 969), (52, 7, 13, 970), (55, 7, 14, 971), (58, 7, 15, 972), (61, 7, 16, 973), (64, 7, 17, 974), (67, 7, 18, 975), (183, 7, 19, 976), (186, 7, 20, 977), (196, 7, 21, 978), (193, 7, 22, 979), (211, 7, 23, 980), (218, 7, 24, 981), (222, 7, 25, 982), (248, 7, 26, 983), (70, 7, 27, 984), (73, 7, 28, 985), (76, 7, 29, 986), (79, 7, 30, 987), (82, 7, 31, 988), (85, 7, 32, 989), (88, 7, 33, 990), (91, 7, 34, 991), (298, 7, 35, 992), (326, 7, 36, 993), (329, 7, 37, 994), (351, 7, 38, 995), (378, 7, 39, 996), (94, 7, 40, 997), (97, 7, 41, 998), (100, 7, 42, 999), (103, 7, 43, 1000), (106, 7, 44, 1001), (109, 7, 45, 1002), (112, 7, 46, 1003), (115, 7, 47, 1004), (118, 7, 48, 1005), (121, 7, 49, 1006), (124, 7, 50, 1007), (127, 7, 51, 1008), (130, 7, 52, 1009), (133, 7, 53, 1010), (136, 7, 54, 1011), (139, 7, 55, 1012), (142, 7, 56, 1013), (145, 7, 57, 1014), (148, 7, 58, 1015), (151, 7, 59, 1016), (154, 7, 60, 1017), (157, 7, 61, 1018), (160, 7, 62, 1019), (416, 7, 63, 1020), (419, 7, 64, 1021), (163, 7, 65, 1022), (166, 7, 66, 1023), (169, 7, 67, 1024), (172, 7, 68, 1025)]]
def xlP : List (List (Nat × Nat × Nat × FieldType × Bool × Nat)) := [[],
  [(104, 4, 0, (.array .int), true, 123), (115, 4, 1, (.array .int), true, 128), (140, 4, 3, (.array .int), true, 137), (118, 4, 5, (.array .int), true, 144), (130, 4, 6, (.array .int), true, 147), (143, 4, 7, (.array .long), true, 153), (94, 1, 0, (.object "LateRows$Texts"), true, 175), (253, 1, 1, .int, false, 177), (159, 0, 0, (.array .int), true, 208), (156, 0, 1, .int, false, 210), (121, 5, 0, (.array .int), true, 226), (124, 5, 1, (.array .int), true, 228), (127, 5, 2, (.array .int), true, 232), (187, 3, 3, .int, false, 285), (179, 3, 4, .long, false, 287), (261, 2, 0, (.array .int), true, 306), (236, 2, 1, (.array .int), true, 308), (10, 6, 0, (.object "LateRows$Reader"), true, 317), (19, 6, 1, (.object "LateRows$Printer"), true, 318), (28, 6, 2, (.object "LateRows$Texts"), true, 319), (35, 6, 3, (.object "LateRows$Told"), true, 320), (39, 6, 4, (.object "LateRows$Told"), true, 321), (47, 6, 5, (.object "LateRows$Teller"), true, 322), (54, 6, 6, (.object "LateRows$Sheets"), true, 323), (58, 6, 7, (.array .long), true, 324), (62, 6, 8, (.object "LateRows$Texts"), true, 325), (65, 6, 9, (.object "LateRows$Told"), true, 326), (68, 6, 10, .int, false, 327), (72, 6, 11, .boolean, false, 328), (76, 6, 12, .int, false, 329), (79, 6, 13, .int, false, 330)],
  [],
  [(19, 4, 0, (.array .int), true, 122), (28, 4, 1, (.array .int), true, 126), (65, 4, 2, (.array .int), true, 131), (31, 4, 3, (.array .int), true, 135), (68, 4, 4, (.array .int), true, 140), (78, 4, 6, (.array .int), true, 146), (81, 4, 7, (.array .long), true, 151), (11, 0, 0, (.array .int), true, 207), (15, 0, 1, .int, false, 209)],
  [(49, 4, 1, (.array .int), true, 127), (95, 4, 2, (.array .int), true, 132), (74, 4, 3, (.array .int), true, 136), (109, 4, 4, (.array .int), true, 141), (126, 4, 6, (.array .int), true, 148), (118, 4, 7, (.array .long), true, 152), (14, 1, 0, (.object "LateRows$Texts"), true, 174), (20, 1, 1, .int, false, 176), (24, 1, 2, (.array .int), true, 178), (28, 1, 3, (.array .int), true, 179), (31, 1, 4, (.array .int), true, 180), (34, 1, 5, (.array .int), true, 181), (37, 1, 6, .int, false, 182), (40, 1, 7, .int, false, 183)],
  [(9, 2, 0, (.array .int), true, 305), (15, 2, 1, (.array .int), true, 307), (18, 2, 2, (.array .long), true, 309)],
  [(96, 4, 0, (.array .int), true, 124), (69, 4, 1, (.array .int), true, 129), (108, 4, 2, (.array .int), true, 133), (94, 4, 3, (.array .int), true, 138), (128, 4, 4, (.array .int), true, 142), (102, 4, 6, (.array .int), true, 149), (135, 4, 7, (.array .long), true, 154), (41, 5, 0, (.array .int), true, 225), (91, 5, 1, (.array .int), true, 229), (47, 5, 2, (.array .int), true, 231), (50, 5, 3, (.array .boolean), true, 234), (115, 5, 4, (.array .int), true, 236), (125, 5, 5, (.array .int), true, 238), (80, 5, 6, (.array .byte), true, 240), (87, 5, 7, (.array .long), true, 242), (122, 5, 8, (.array .byte), true, 244), (22, 3, 0, (.object "LateRows$Texts"), true, 281), (26, 3, 1, (.object "LateRows$Told"), false, 282), (9, 3, 2, .int, false, 283), (15, 3, 3, .int, false, 284), (18, 3, 4, .long, false, 286)],
  [(9, 4, 0, (.array .int), true, 121), (15, 4, 1, (.array .int), true, 125), (18, 4, 2, (.array .int), true, 130), (21, 4, 3, (.array .int), true, 134), (24, 4, 4, (.array .int), true, 139), (27, 4, 5, (.array .int), true, 143), (30, 4, 6, (.array .int), true, 145), (33, 4, 7, (.array .long), true, 150)],
  [(15, 5, 0, (.array .int), true, 224), (19, 5, 1, (.array .int), true, 227), (22, 5, 2, (.array .int), true, 230), (25, 5, 3, (.array .boolean), true, 233), (29, 5, 4, (.array .int), true, 235), (32, 5, 5, (.array .int), true, 237), (35, 5, 6, (.array .byte), true, 239), (39, 5, 7, (.array .long), true, 241), (43, 5, 8, (.array .byte), true, 243), (46, 5, 9, (.array .boolean), true, 245), (49, 5, 10, (.array .int), true, 246), (9, 5, 11, .int, false, 247)],
  [(13, 7, 1, (.array .int), true, 958), (17, 7, 2, (.array .int), true, 959), (20, 7, 3, (.array .int), true, 960), (23, 7, 4, (.array .int), true, 961), (26, 7, 5, (.array .long), true, 962), (30, 7, 6, (.array .long), true, 963), (33, 7, 7, (.array .int), true, 964), (36, 7, 8, (.array .long), true, 965), (39, 7, 9, .int, false, 966), (42, 7, 10, (.array .int), true, 967), (45, 7, 11, (.array .int), true, 968), (48, 7, 12, (.array .boolean), true, 969), (52, 7, 13, (.array .int), true, 970), (55, 7, 14, (.array .int), true, 971), (58, 7, 15, (.array .int), true, 972), (61, 7, 16, (.array .long), true, 973), (64, 7, 17, (.array .int), true, 974), (67, 7, 18, (.array .int), true, 975), (183, 7, 19, .int, false, 976), (186, 7, 20, .int, false, 977), (196, 7, 21, .int, false, 978), (193, 7, 22, .int, false, 979), (211, 7, 23, .int, false, 980), (218, 7, 24, .boolean, false, 981), (222, 7, 25, .int, false, 982), (248, 7, 26, .int, false, 983), (70, 7, 27, (.array .int), true, 984), (73, 7, 28, (.array .int), true, 985), (76, 7, 29, (.array .int), true, 986), (79, 7, 30, (.array .long), true, 987), (82, 7, 31, (.array .long), true, 988), (85, 7, 32, (.array .int), true, 989), (88, 7, 33, (.array .long), true, 990), (91, 7, 34, (.array .int), true, 991), (298, 7, 35, .int, false, 992), (326, 7, 36, .int, false, 993), (329, 7, 37, .int, false, 994), (351, 7, 38, .long, false, 995), (378, 7, 39, .int, false, 996), (94, 7, 40, (.array .int), true, 997), (97, 7, 41, (.array .int), true, 998), (100, 7, 42, (.array .int), true, 999), (103, 7, 43, (.array .int), true, 1000), (106, 7, 44, (.array .int), true, 1001), (109, 7, 45, (.array .long), true, 1002), (112, 7, 46, (.array .int), true, 1003), (115, 7, 47, (.array .long), true, 1004), (118, 7, 48, (.array .int), true, 1005), (121, 7, 49, (.array .int), true, 1006), (124, 7, 50, (.array .int), true, 1007), (127, 7, 51, (.array .int), true, 1008), (130, 7, 52, (.array .long), true, 1009), (133, 7, 53, (.array .long), true, 1010), (136, 7, 54, (.array .int), true, 1011), (139, 7, 55, (.array .long), true, 1012), (142, 7, 56, (.array .int), true, 1013), (145, 7, 57, (.array .int), true, 1014), (148, 7, 58, (.array .int), true, 1015), (151, 7, 59, (.array .int), true, 1016), (154, 7, 60, (.array .int), true, 1017), (157, 7, 61, (.array .long), true, 1018), (160, 7, 62, (.array .int), true, 1019), (416, 7, 63, .int, false, 1020), (419, 7, 64, .boolean, false, 1021), (163, 7, 65, (.array .boolean), true, 1022), (166, 7, 66, (.array .int), true, 1023), (169, 7, 67, (.array .int), true, 1024), (172, 7, 68, (.array .long), true, 1025)]]
def xlM : List (List (Nat × Nat × Nat × Nat × Nat × Nat)) := [[(9, 4, 93, 1, 6, 103), (13, 0, 86, 2, 6, 360), (18, 0, 117, 2, 6, 368), (22, 0, 84, 2, 6, 600), (26, 0, 105, 4, 6, 604), (31, 0, 104, 3, 6, 616), (36, 0, 85, 4, 6, 624), (41, 0, 119, 4, 6, 628), (45, 0, 113, 4, 6, 635), (49, 0, 106, 3, 6, 640), (54, 0, 118, 3, 6, 686), (58, 0, 94, 3, 6, 773), (62, 0, 91, 3, 6, 781), (66, 0, 103, 3, 6, 785), (70, 0, 102, 2, 6, 800), (74, 0, 89, 1, 6, 804), (79, 0, 112, 3, 6, 816), (85, 0, 88, 4, 6, 826), (90, 0, 83, 4, 6, 834), (94, 0, 110, 2, 6, 842), (98, 0, 87, 4, 6, 850), (102, 0, 116, 4, 6, 869), (106, 0, 92, 1, 6, 896), (110, 0, 79, 1, 6, 909), (114, 0, 81, 2, 6, 913), (118, 0, 111, 4, 6, 921), (122, 0, 107, 4, 6, 925), (127, 0, 100, 3, 6, 933), (131, 0, 80, 6, 6, 937), (136, 0, 101, 6, 6, 946), (12, 4, 143, 1, 7, 954), (17, 0, 131, 2, 7, 1165), (21, 0, 190, 2, 7, 1173), (25, 0, 128, 2, 7, 1241), (30, 0, 173, 4, 7, 1245), (35, 0, 169, 3, 7, 1258), (40, 0, 129, 4, 7, 1267), (44, 0, 194, 4, 7, 1271), (48, 0, 186, 4, 7, 1278), (53, 0, 177, 3, 7, 1286), (57, 0, 191, 3, 7, 1315), (61, 0, 144, 3, 7, 1372), (65, 0, 139, 3, 7, 1380), (73, 0, 163, 2, 7, 1385), (78, 0, 135, 1, 7, 1390), (82, 0, 185, 3, 7, 1398), (89, 0, 133, 4, 7, 1407), (93, 0, 126, 4, 7, 1411), (97, 0, 181, 2, 7, 1415), (69, 0, 166, 3, 7, 1419), (101, 0, 132, 4, 7, 1431), (105, 0, 187, 4, 7, 1444), (109, 0, 141, 1, 7, 1452), (113, 0, 120, 1, 7, 1460), (117, 0, 124, 2, 7, 1464), (121, 0, 183, 4, 7, 1469), (126, 0, 179, 4, 7, 1470), (130, 0, 155, 3, 7, 1474), (135, 0, 123, 6, 7, 1478), (139, 0, 160, 6, 7, 1482)],
  [(1, 6, 0, 0, 0, 106), (9, 5, 17, 1, 1, 111), (18, 5, 6, 1, 0, 203), (25, 4, 66, 2, 4, 217), (34, 4, 73, 2, 5, 220), (44, 4, 48, 3, 3, 277), (53, 4, 32, 1, 2, 301), (82, 0, 16, 2, 1, 364), (86, 1, 98, 1, 0, 372), (90, 0, 29, 1, 1, 375), (97, 0, 70, 4, 4, 581), (101, 0, 77, 1, 5, 592), (108, 0, 95, 2, 6, 608), (111, 0, 90, 3, 6, 612), (135, 1, 2, 1, 0, 621), (146, 1, 1, 2, 0, 632), (149, 1, 3, 1, 0, 639), (152, 0, 14, 3, 0, 644), (162, 0, 108, 3, 6, 690), (196, 0, 109, 4, 6, 694), (166, 0, 42, 3, 3, 698), (170, 0, 49, 3, 3, 702), (173, 0, 82, 2, 6, 769), (176, 0, 51, 3, 3, 777), (183, 0, 75, 2, 5, 789), (190, 0, 72, 1, 5, 808), (193, 0, 71, 1, 5, 812), (200, 0, 39, 3, 3, 820), (205, 0, 54, 4, 3, 830), (209, 0, 46, 4, 3, 838), (212, 0, 55, 2, 3, 846), (215, 1, 97, 1, 0, 854), (218, 0, 47, 4, 3, 857), (222, 0, 36, 4, 2, 861), (226, 0, 38, 4, 2, 865), (230, 1, 96, 1, 0, 873), (233, 0, 33, 2, 2, 876), (237, 0, 115, 2, 6, 880), (275, 0, 99, 3, 6, 884), (258, 0, 35, 3, 2, 888), (240, 0, 114, 5, 6, 892), (244, 0, 68, 2, 4, 900), (247, 0, 64, 1, 4, 905), (250, 0, 61, 1, 4, 917), (254, 0, 37, 4, 2, 929), (264, 0, 34, 6, 2, 941), (268, 0, 62, 3, 4, 950), (272, 0, 63, 3, 4, 951)],
  [],
  [(3, 6, 0, 0, 0, 206), (24, 0, 12, 3, 0, 648), (34, 0, 13, 2, 0, 652), (85, 0, 7, 1, 0, 656), (88, 0, 8, 2, 0, 660), (38, 1, 5, 1, 0, 664), (44, 0, 15, 2, 0, 665), (48, 1, 4, 1, 0, 671), (61, 0, 9, 4, 0, 672), (71, 0, 10, 2, 0, 676), (75, 0, 11, 3, 0, 682)],
  [(3, 6, 0, 0, 0, 114), (11, 4, 66, 2, 4, 117), (43, 0, 31, 1, 1, 379), (132, 1, 30, 1, 0, 383), (135, 0, 21, 4, 1, 473), (141, 0, 20, 3, 1, 477), (144, 1, 5, 1, 0, 481), (147, 0, 19, 4, 1, 498), (46, 0, 27, 2, 1, 523), (65, 8, 0, 0, 0, 527), (71, 0, 62, 3, 4, 528), (58, 0, 22, 1, 1, 532), (77, 1, 4, 1, 0, 536), (91, 0, 23, 3, 1, 547), (100, 0, 28, 2, 1, 552), (106, 0, 24, 1, 1, 557), (122, 0, 18, 2, 1, 561), (112, 0, 25, 3, 1, 565), (115, 0, 26, 2, 1, 569), (52, 1, 3, 1, 0, 573), (61, 0, 63, 3, 4, 576)],
  [(3, 6, 0, 0, 0, 304), (22, 7, 0, 0, 0, 945)],
  [(3, 6, 0, 0, 0, 280), (30, 0, 41, 3, 3, 706), (37, 0, 44, 2, 3, 710), (54, 0, 43, 1, 3, 714), (58, 0, 74, 2, 5, 718), (62, 0, 57, 2, 3, 722), (66, 0, 56, 3, 3, 726), (99, 0, 65, 2, 4, 730), (34, 0, 40, 3, 3, 734), (84, 0, 58, 3, 3, 738), (131, 0, 59, 2, 3, 742), (138, 0, 45, 4, 3, 746), (105, 0, 67, 2, 4, 750), (111, 1, 52, 3, 0, 754), (118, 0, 53, 4, 3, 757), (74, 0, 50, 3, 3, 761), (77, 0, 60, 3, 3, 765), (142, 0, 51, 3, 3, 824)],
  [(3, 6, 0, 0, 0, 120), (37, 1, 3, 1, 0, 580), (43, 0, 69, 5, 4, 585), (51, 7, 0, 0, 0, 589), (47, 0, 70, 4, 4, 904)],
  [(3, 6, 0, 0, 0, 223), (52, 0, 78, 2, 5, 596), (56, 0, 77, 1, 5, 793), (59, 0, 76, 3, 5, 794), (63, 0, 74, 2, 5, 798), (66, 7, 0, 0, 0, 799)],
  [(7, 6, 0, 0, 0, 957), (177, 1, 142, 3, 0, 1170), (266, 1, 153, 1, 0, 1177), (238, 0, 167, 1, 7, 1181), (189, 0, 122, 2, 7, 1185), (203, 0, 158, 1, 7, 1191), (231, 0, 154, 6, 7, 1196), (225, 0, 146, 3, 7, 1200), (214, 1, 151, 1, 0, 1206), (263, 0, 182, 1, 7, 1209), (245, 0, 130, 1, 7, 1213), (251, 0, 170, 2, 7, 1217), (235, 0, 150, 2, 7, 1221), (255, 0, 168, 1, 7, 1225), (241, 0, 176, 3, 7, 1229), (259, 0, 164, 2, 7, 1233), (269, 0, 195, 1, 7, 1237), (276, 0, 148, 3, 7, 1250), (279, 0, 193, 2, 7, 1254), (282, 1, 147, 1, 0, 1262), (295, 1, 138, 1, 0, 1283), (320, 0, 178, 2, 7, 1290), (313, 0, 159, 2, 7, 1294), (309, 0, 196, 6, 7, 1298), (304, 0, 137, 1, 7, 1302), (301, 0, 180, 2, 7, 1306), (316, 0, 127, 2, 7, 1310), (375, 0, 121, 2, 7, 1320), (342, 0, 175, 3, 7, 1324), (323, 0, 134, 2, 7, 1328), (332, 0, 189, 3, 7, 1332), (336, 0, 157, 3, 7, 1336), (348, 0, 140, 3, 7, 1340), (363, 0, 188, 3, 7, 1344), (366, 0, 125, 3, 7, 1348), (345, 0, 171, 2, 7, 1352), (369, 0, 156, 4, 7, 1356), (355, 0, 174, 3, 7, 1360), (359, 0, 184, 4, 7, 1364), (339, 0, 165, 3, 7, 1368), (381, 0, 172, 3, 7, 1376), (384, 0, 144, 3, 7, 1384), (389, 0, 192, 2, 7, 1394), (392, 0, 145, 2, 7, 1402), (397, 0, 161, 1, 7, 1423), (400, 0, 162, 1, 7, 1427), (403, 1, 149, 1, 0, 1435), (408, 0, 183, 4, 7, 1439), (412, 0, 152, 4, 7, 1448), (422, 0, 136, 1, 7, 1456)]]
def xlC : List (List (Nat × Nat × Nat)) := [[(7, 6, 101), (10, 7, 952)],
  [(7, 1, 109), (16, 0, 201), (23, 4, 216), (32, 5, 218), (42, 3, 275), (51, 2, 299)],
  [],
  [],
  [(9, 4, 115)],
  [],
  [],
  [],
  [],
  []]
def xlV : List (List (Nat × Value × Nat)) := [[(83, .long (4294967295), 1487)],
  [(133, .long (-4611686018427387904), 620), (203, .long (-6), 825)],
  [],
  [(91, .long (-10), 680), (93, .long (10), 681)],
  [],
  [],
  [],
  [],
  [],
  [(181, .long (255), 1169), (175, .long (7), 1180), (199, .long (97), 1189), (201, .long (122), 1190), (229, .long (104), 1195), (207, .long (48), 1204), (209, .long (57), 1205), (274, .long (5), 1249), (272, .long (3), 1265), (285, .long (-4611686018427387904), 1266), (287, .long (-9999), 1275), (289, .long (9999), 1276), (291, .long (9), 1277), (293, .long (2), 1282), (307, .long (10), 1314), (373, .long (63), 1319), (387, .long (99), 1389), (395, .long (64), 1406), (406, .long (16), 1438), (427, .long (-1), 1443), (425, .long (6), 1468), (429, .long (8), 1486)]]
def xdf : List (List Value) := [[.null, .int 0],
  [.null, .int 0, .null, .null, .null, .null, .int 0, .int 0],
  [.null, .null, .null],
  [.null, .null, .int 0, .int 0, .long 0],
  [.null, .null, .null, .null, .null, .null, .null, .null],
  [.null, .null, .null, .null, .null, .null, .null, .null, .null, .null, .null, .int 0],
  [.null, .null, .null, .null, .null, .null, .null, .null, .null, .null, .int 0, .int 0, .int 0, .int 0],
  [.int 0, .null, .null, .null, .null, .null, .null, .null, .null, .int 0, .null, .null, .null, .null, .null, .null, .null, .null, .null, .int 0, .int 0, .int 0, .int 0, .int 0, .int 0, .int 0, .int 0, .null, .null, .null, .null, .null, .null, .null, .null, .int 0, .int 0, .int 0, .long 0, .int 0, .null, .null, .null, .null, .null, .null, .null, .null, .null, .null, .null, .null, .null, .null, .null, .null, .null, .null, .null, .null, .null, .null, .null, .int 0, .int 0, .null, .null, .null, .null]]
def xpl_0 : List (Nat × Nat × Nat × Nat) := [(9999, 84, 9999, 9999), (634, 99, 633, 9999), (623, 99, 622, 9999), (575, 99, 574, 9999), (538, 99, 537, 9999), (483, 99, 482, 9999), (205, 88, 204, 9999), (659, 88, 658, 18), (663, 88, 662, 19), (675, 88, 674, 21), (679, 88, 678, 22), (685, 88, 684, 23), (651, 88, 650, 16), (655, 88, 654, 17), (647, 88, 645, 646), (668, 88, 667, 20), (367, 86, 365, 366), (113, 86, 112, 9999), (564, 86, 563, 9), (501, 86, 500, 3), (480, 86, 479, 2), (476, 86, 475, 1), (535, 86, 534, 5), (550, 86, 549, 6), (560, 86, 559, 8), (568, 86, 567, 10), (572, 86, 571, 11), (526, 86, 525, 4), (555, 86, 554, 7), (378, 86, 376, 377), (385, 86, 384, 9999), (382, 86, 381, 0)]
def xpl_1 : List (Nat × Nat × Nat × Nat) := [(303, 91, 302, 9999), (879, 91, 877, 878), (944, 91, 942, 943), (891, 91, 889, 890), (864, 91, 862, 863), (932, 91, 930, 931), (868, 91, 866, 867), (823, 90, 821, 822), (737, 90, 736, 31), (709, 90, 708, 26), (701, 90, 699, 700), (717, 90, 716, 28), (713, 90, 712, 27), (749, 90, 748, 34), (841, 90, 839, 840), (860, 90, 858, 859), (279, 90, 278, 9999), (705, 90, 703, 704), (764, 90, 763, 36), (780, 90, 778, 779), (756, 90, 755, 9999), (760, 90, 759, 35), (833, 90, 831, 832), (849, 90, 847, 848), (729, 90, 728, 30), (725, 90, 724, 29), (741, 90, 740, 32), (745, 90, 744, 33), (768, 90, 767, 37), (920, 87, 918, 919), (531, 87, 529, 530), (579, 87, 577, 578)]
def xpl_2 : List (Nat × Nat × Nat × Nat) := [(908, 87, 906, 907), (733, 87, 731, 732), (119, 87, 118, 9999), (753, 87, 751, 752), (903, 87, 901, 902), (588, 87, 587, 12), (584, 87, 582, 583), (815, 89, 813, 814), (811, 89, 809, 810), (222, 89, 221, 9999), (721, 89, 719, 720), (792, 89, 790, 791), (797, 89, 796, 39), (595, 89, 593, 594), (599, 89, 598, 13), (912, 85, 910, 911), (940, 85, 938, 939), (916, 85, 914, 915), (772, 85, 771, 38), (837, 85, 835, 836), (603, 85, 601, 602), (627, 85, 625, 626), (363, 85, 361, 362), (853, 85, 851, 852), (829, 85, 827, 828), (807, 85, 805, 806), (615, 85, 614, 15), (784, 85, 782, 783), (899, 85, 897, 898), (105, 85, 104, 9999), (776, 85, 774, 775), (611, 85, 610, 14)]
def xpl_3 : List (Nat × Nat × Nat × Nat) := [(875, 85, 874, 9999), (856, 85, 855, 9999), (374, 85, 373, 9999), (887, 85, 886, 41), (936, 85, 934, 935), (949, 85, 947, 948), (803, 85, 801, 802), (788, 85, 786, 787), (619, 85, 617, 618), (607, 85, 605, 606), (643, 85, 641, 642), (928, 85, 926, 927), (693, 85, 692, 24), (697, 85, 696, 25), (845, 85, 843, 844), (924, 85, 922, 923), (819, 85, 817, 818), (638, 85, 636, 637), (895, 85, 894, 42), (883, 85, 882, 40), (872, 85, 870, 871), (371, 85, 369, 370), (689, 85, 687, 688), (631, 85, 629, 630), (1463, 92, 1461, 1462), (1323, 92, 1322, 64), (1188, 92, 1187, 44), (1481, 92, 1479, 1480), (1467, 92, 1465, 1466), (1351, 92, 1350, 71), (1414, 92, 1412, 1413), (1313, 92, 1312, 63)]
def xpl_4 : List (Nat × Nat × Nat × Nat) := [(1244, 92, 1242, 1243), (1270, 92, 1268, 1269), (1216, 92, 1215, 49), (1168, 92, 1166, 1167), (1434, 92, 1432, 1433), (1410, 92, 1408, 1409), (1331, 92, 1330, 66), (1393, 92, 1391, 1392), (1459, 92, 1458, 83), (1305, 92, 1304, 61), (1285, 92, 1284, 9999), (1383, 92, 1381, 1382), (1343, 92, 1342, 69), (1455, 92, 1453, 1454), (1172, 92, 1171, 9999), (956, 92, 955, 9999), (1375, 92, 1373, 1374), (1405, 92, 1404, 79), (1203, 92, 1202, 47), (1264, 92, 1263, 9999), (1253, 92, 1252, 56), (1437, 92, 1436, 9999), (1224, 92, 1223, 51), (1208, 92, 1207, 9999), (1451, 92, 1450, 82), (1179, 92, 1178, 9999), (1199, 92, 1198, 46), (1477, 92, 1475, 1476), (1359, 92, 1358, 73), (1339, 92, 1338, 68), (1194, 92, 1193, 45), (1297, 92, 1296, 59)]
def xpl_5 : List (Nat × Nat × Nat × Nat) := [(1485, 92, 1483, 1484), (1426, 92, 1425, 80), (1430, 92, 1429, 81), (1388, 92, 1386, 1387), (1236, 92, 1235, 54), (1371, 92, 1370, 76), (1422, 92, 1420, 1421), (1184, 92, 1183, 43), (1228, 92, 1227, 52), (1261, 92, 1259, 1260), (1220, 92, 1219, 50), (1355, 92, 1354, 72), (1379, 92, 1378, 77), (1248, 92, 1246, 1247), (1363, 92, 1362, 74), (1327, 92, 1326, 65), (1232, 92, 1231, 53), (1289, 92, 1287, 1288), (1293, 92, 1292, 58), (1473, 92, 1471, 1472), (1309, 92, 1308, 62), (1418, 92, 1416, 1417), (1212, 92, 1211, 48), (1442, 92, 1440, 1441), (1367, 92, 1366, 75), (1401, 92, 1399, 1400), (1281, 92, 1279, 1280), (1447, 92, 1445, 1446), (1347, 92, 1346, 70), (1335, 92, 1334, 67), (1176, 92, 1174, 1175), (1318, 92, 1316, 1317)]
def xpl_6 : List (Nat × Nat × Nat × Nat) := [(1397, 92, 1396, 78), (1257, 92, 1256, 57), (1274, 92, 1272, 1273), (1240, 92, 1239, 55), (1301, 92, 1300, 60)]
def xpl (M : Nat) : Option (Nat × Nat × Nat × Nat) := match M / 32 with
  | 0 => xpl_0[M % 32]?
  | 1 => xpl_1[M % 32]?
  | 2 => xpl_2[M % 32]?
  | 3 => xpl_3[M % 32]?
  | 4 => xpl_4[M % 32]?
  | 5 => xpl_5[M % 32]?
  | 6 => xpl_6[M % 32]?
  | _ => none
def xd0 : xM := (yL_law, cL_law, 4, some .boolean)
def xlk {α : Type} (t : List (List (Nat × α))) (M k : Nat) : Option α := match xent M with
  | some e => match t[e.2.2.1]? with
    | some r => r.lookup k
    | none => none
  | none => none
/-- THE PROGRAM -/
def xg : xG := (fun M pc => match xent M with
    | some e => xtab e.2.1 pc
    | none => none,
  fun M k => match xlk xlF M k with
    | some (ci, j, _) => some (ci, j)
    | none => none,
  fun M k => match xent M, xlk xlP M k with
    | some e, some (ci, j, ty, fin, _) => if fin = true ∧ ¬ (e.2.2.2.2 = true ∧ e.2.2.2.1 = ci) then none else some (ci, j, ty)
    | _, _ => none,
  fun M k => match xlk xlM M k with
    | some (kind, N, na, ci, _) => some (kind, N, na, ci)
    | none => none,
  fun M k => match xlk xlC M k with
    | some (ci, _) => some ci
    | none => none,
  fun M k => match xlk xlV M k with
    | some (v, _) => some v
    | none => none,
  fun ci => xdf.getD ci [],
  fun M => match xent M with
    | some e => e.1
    | none => xd0)
def xTs : List Cond := lw_tbl.filter goodWord
/-- that word, at that place of the tables -/
def xis (i : Nat) (w : Cond) : Bool := decide (lw_tbl[i]? = some w) && goodWord w
theorem xis_in {i : Nat} {w : Cond} (h : xis i w = true) : w ∈ xTs := by
  simp only [xis, Bool.and_eq_true, decide_eq_true_eq] at h
  exact List.mem_filter.mpr ⟨List.mem_of_getElem? h.1, h.2⟩
theorem xlk_in {α : Type} {t : List (List (Nat × α))} {M k : Nat} {v : α} (h : xlk t M k = some v) : ∃ e r, xent M = some e ∧ t[e.2.2.1]? = some r ∧ (k, v) ∈ r := by
  unfold xlk at h
  split at h
  · rename_i e he
    split at h
    · rename_i r hr
      exact ⟨e, r, he, hr, x_lookg h⟩
    · cases h
  · cases h
theorem xzip {α β : Type} {f : α → β → Bool} {a : List α} {b : List β} (h : ((List.zip a b).all (fun q => f q.1 q.2)) = true) {i : Nat} {x : α} {y : β} (hx : a[i]? = some x) (hy : b[i]? = some y) : f x y = true := by
  have : (x, y) ∈ List.zip a b := List.mem_of_getElem? (i := i) (by rw [List.getElem?_zip_eq_some]; exact ⟨hx, hy⟩)
  exact List.all_eq_true.mp h _ this
def xentOK (e : xEn) : Bool := decide (xcn[e.2.2.1]? = some e.1.1.cls) && (!e.2.2.2.2 || decide (e.1.1.name = "<init>")) && (e.2.2.2.1 == 99 || match vwCl[e.2.2.2.1]? with
  | some (C, _, _) => decide (C = e.1.1.cls)
  | none => false)
theorem xentOK_0 : ∀ e ∈ xall_0, xentOK e = true := fun e he => List.all_eq_true.mp (by decide +kernel : xall_0.all xentOK = true) e he
theorem xentOK_1 : ∀ e ∈ xall_1, xentOK e = true := fun e he => List.all_eq_true.mp (by decide +kernel : xall_1.all xentOK = true) e he
theorem xentOK_2 : ∀ e ∈ xall_2, xentOK e = true := fun e he => List.all_eq_true.mp (by decide +kernel : xall_2.all xentOK = true) e he
theorem xentOK_3 : ∀ e ∈ xall_3, xentOK e = true := fun e he => List.all_eq_true.mp (by decide +kernel : xall_3.all xentOK = true) e he
theorem xentOK_4 : ∀ e ∈ xall_4, xentOK e = true := fun e he => List.all_eq_true.mp (by decide +kernel : xall_4.all xentOK = true) e he
theorem xentOK_5 : ∀ e ∈ xall_5, xentOK e = true := fun e he => List.all_eq_true.mp (by decide +kernel : xall_5.all xentOK = true) e he
theorem xentOK_6 : ∀ e ∈ xall_6, xentOK e = true := fun e he => List.all_eq_true.mp (by decide +kernel : xall_6.all xentOK = true) e he
theorem xent_all {P : xEn → Prop} (h0 : ∀ e ∈ xall_0, P e) (h1 : ∀ e ∈ xall_1, P e) (h2 : ∀ e ∈ xall_2, P e) (h3 : ∀ e ∈ xall_3, P e) (h4 : ∀ e ∈ xall_4, P e) (h5 : ∀ e ∈ xall_5, P e) (h6 : ∀ e ∈ xall_6, P e) {M : Nat} {e : xEn} (h : xent M = some e) : P e := by
  unfold xent at h
  split at h
  · exact h0 e (List.mem_of_getElem? h)
  · exact h1 e (List.mem_of_getElem? h)
  · exact h2 e (List.mem_of_getElem? h)
  · exact h3 e (List.mem_of_getElem? h)
  · exact h4 e (List.mem_of_getElem? h)
  · exact h5 e (List.mem_of_getElem? h)
  · exact h6 e (List.mem_of_getElem? h)
  · cases h
theorem xentOK_all {M : Nat} {e : xEn} (h : xent M = some e) : xentOK e = true := xent_all (P := fun e => xentOK e = true) xentOK_0 xentOK_1 xentOK_2 xentOK_3 xentOK_4 xentOK_5 xentOK_6 h
theorem xent_cn {M : Nat} {e : xEn} (h : xent M = some e) : xcn[e.2.2.1]? = some (xMet xg M).1.cls := by
  have h1 := xentOK_all h
  simp only [xentOK, Bool.and_eq_true, decide_eq_true_eq] at h1
  have : xMet xg M = e.1 := by show (match xent M with | some e => e.1 | none => xd0) = e.1; rw [h]
  rw [this]
  exact h1.1.1
theorem xent_met {M : Nat} {e : xEn} (h : xent M = some e) : xMet xg M = e.1 := by show (match xent M with | some e => e.1 | none => xd0) = e.1; rw [h]
theorem xu_0 : ∀ e ∈ xall_0, ∀ r ∈ e.2.1, xchk1 e.1.2.1 r = true := List.forall_mem_cons.mpr ⟨uL_law, List.forall_mem_cons.mpr ⟨uX0_allows, List.forall_mem_cons.mpr ⟨uX0_hasNumber, List.forall_mem_cons.mpr ⟨uX0_rows, List.forall_mem_cons.mpr ⟨uX0_shape, List.forall_mem_cons.mpr ⟨uX0_word, List.forall_mem_cons.mpr ⟨uX1_init, List.forall_mem_cons.mpr ⟨uX1_writeBlank, List.forall_mem_cons.mpr ⟨uX1_writeByte, List.forall_mem_cons.mpr ⟨uX1_writeField, List.forall_mem_cons.mpr ⟨uX1_writeNum, List.forall_mem_cons.mpr ⟨uX1_writeNums, List.forall_mem_cons.mpr ⟨uX1_writePart, List.forall_mem_cons.mpr ⟨uX1_writeSign, List.forall_mem_cons.mpr ⟨uX1_writeStream, List.forall_mem_cons.mpr ⟨uX1_writeWord, List.forall_mem_cons.mpr ⟨uX2_addByte, List.forall_mem_cons.mpr ⟨uX2_init, List.forall_mem_cons.mpr ⟨uX2_isSign, List.forall_mem_cons.mpr ⟨uX2_isWord, List.forall_mem_cons.mpr ⟨uX2_kindOfWord, List.forall_mem_cons.mpr ⟨uX2_meaningOf, List.forall_mem_cons.mpr ⟨uX2_miss, List.forall_mem_cons.mpr ⟨uX2_readField, List.forall_mem_cons.mpr ⟨uX2_readNum, List.forall_mem_cons.mpr ⟨uX2_readNumber, List.forall_mem_cons.mpr ⟨uX2_readNums, List.forall_mem_cons.mpr ⟨uX2_readPart, List.forall_mem_cons.mpr ⟨uX2_readSign, List.forall_mem_cons.mpr ⟨uX2_readTape, List.forall_mem_cons.mpr ⟨uX2_sortOf, List.forall_mem_cons.mpr ⟨uX2_splitTape, fun _ h => absurd h List.not_mem_nil⟩⟩⟩⟩⟩⟩⟩⟩⟩⟩⟩⟩⟩⟩⟩⟩⟩⟩⟩⟩⟩⟩⟩⟩⟩⟩⟩⟩⟩⟩⟩⟩
theorem xu_1 : ∀ e ∈ xall_1, ∀ r ∈ e.2.1, xchk1 e.1.2.1 r = true := List.forall_mem_cons.mpr ⟨uX3_init, List.forall_mem_cons.mpr ⟨uX3_isMissing, List.forall_mem_cons.mpr ⟨uX3_move, List.forall_mem_cons.mpr ⟨uX3_read, List.forall_mem_cons.mpr ⟨uX3_renew, List.forall_mem_cons.mpr ⟨uX3_spans, List.forall_mem_cons.mpr ⟨uX3_write, List.forall_mem_cons.mpr ⟨uX4_addUp, List.forall_mem_cons.mpr ⟨uX4_askHead, List.forall_mem_cons.mpr ⟨uX4_askPlace, List.forall_mem_cons.mpr ⟨uX4_begin, List.forall_mem_cons.mpr ⟨uX4_beginsRun, List.forall_mem_cons.mpr ⟨uX4_behindNames, List.forall_mem_cons.mpr ⟨uX4_combine, List.forall_mem_cons.mpr ⟨uX4_firstUnlike, List.forall_mem_cons.mpr ⟨uX4_gather, List.forall_mem_cons.mpr ⟨uX4_init, List.forall_mem_cons.mpr ⟨uX4_isThere, List.forall_mem_cons.mpr ⟨uX4_mergePlace, List.forall_mem_cons.mpr ⟨uX4_outcome, List.forall_mem_cons.mpr ⟨uX4_passes, List.forall_mem_cons.mpr ⟨uX4_passesOwnHeads, List.forall_mem_cons.mpr ⟨uX4_placeOf, List.forall_mem_cons.mpr ⟨uX4_rising, List.forall_mem_cons.mpr ⟨uX4_seekPlace, List.forall_mem_cons.mpr ⟨uX4_seeks, List.forall_mem_cons.mpr ⟨uX4_tellHead, List.forall_mem_cons.mpr ⟨uX4_tellNumber, List.forall_mem_cons.mpr ⟨uX4_tellPlace, List.forall_mem_cons.mpr ⟨uX5_allParts, List.forall_mem_cons.mpr ⟨uX5_clearPart, List.forall_mem_cons.mpr ⟨uX5_close, fun _ h => absurd h List.not_mem_nil⟩⟩⟩⟩⟩⟩⟩⟩⟩⟩⟩⟩⟩⟩⟩⟩⟩⟩⟩⟩⟩⟩⟩⟩⟩⟩⟩⟩⟩⟩⟩⟩
theorem xu_2 : ∀ e ∈ xall_2, ∀ r ∈ e.2.1, xchk1 e.1.2.1 r = true := List.forall_mem_cons.mpr ⟨uX5_filledStreams, List.forall_mem_cons.mpr ⟨uX5_firstRow, List.forall_mem_cons.mpr ⟨uX5_init, List.forall_mem_cons.mpr ⟨uX5_secondRow, List.forall_mem_cons.mpr ⟨uX5_takeAll, List.forall_mem_cons.mpr ⟨uX5_takeParts, List.forall_mem_cons.mpr ⟨uX5_takeStream, List.forall_mem_cons.mpr ⟨uX6_allHeads, List.forall_mem_cons.mpr ⟨uX6_allPlaces, List.forall_mem_cons.mpr ⟨uX6_init, List.forall_mem_cons.mpr ⟨uX6_meet, List.forall_mem_cons.mpr ⟨uX6_takeAll, List.forall_mem_cons.mpr ⟨uX6_takePart, List.forall_mem_cons.mpr ⟨uX6_untell, List.forall_mem_cons.mpr ⟨uX6_untellPart, List.forall_mem_cons.mpr ⟨uX7_back, List.forall_mem_cons.mpr ⟨uX7_copy, List.forall_mem_cons.mpr ⟨uX7_count, List.forall_mem_cons.mpr ⟨uX7_counted, List.forall_mem_cons.mpr ⟨uX7_differ, List.forall_mem_cons.mpr ⟨uX7_empty, List.forall_mem_cons.mpr ⟨uX7_entry, List.forall_mem_cons.mpr ⟨uX7_feed, List.forall_mem_cons.mpr ⟨uX7_film, List.forall_mem_cons.mpr ⟨uX7_find, List.forall_mem_cons.mpr ⟨uX7_forget, List.forall_mem_cons.mpr ⟨uX7_hasPart, List.forall_mem_cons.mpr ⟨uX7_head, List.forall_mem_cons.mpr ⟨uX7_image, List.forall_mem_cons.mpr ⟨uX7_init, List.forall_mem_cons.mpr ⟨uX7_is, List.forall_mem_cons.mpr ⟨uX7_isEmpty, fun _ h => absurd h List.not_mem_nil⟩⟩⟩⟩⟩⟩⟩⟩⟩⟩⟩⟩⟩⟩⟩⟩⟩⟩⟩⟩⟩⟩⟩⟩⟩⟩⟩⟩⟩⟩⟩⟩
theorem xu_3 : ∀ e ∈ xall_3, ∀ r ∈ e.2.1, xchk1 e.1.2.1 r = true := List.forall_mem_cons.mpr ⟨uX7_isQuestion, List.forall_mem_cons.mpr ⟨uX7_isSheet, List.forall_mem_cons.mpr ⟨uX7_isStream, List.forall_mem_cons.mpr ⟨uX7_isToldBy, List.forall_mem_cons.mpr ⟨uX7_item, List.forall_mem_cons.mpr ⟨uX7_lay, List.forall_mem_cons.mpr ⟨uX7_limit, List.forall_mem_cons.mpr ⟨uX7_need, List.forall_mem_cons.mpr ⟨uX7_number, List.forall_mem_cons.mpr ⟨uX7_part, List.forall_mem_cons.mpr ⟨uX7_print, List.forall_mem_cons.mpr ⟨uX7_put, List.forall_mem_cons.mpr ⟨uX7_refusedPlace, List.forall_mem_cons.mpr ⟨uX7_refusedRow, List.forall_mem_cons.mpr ⟨uX7_rises, List.forall_mem_cons.mpr ⟨uX7_sheet, List.forall_mem_cons.mpr ⟨uX7_sum, List.forall_mem_cons.mpr ⟨uX7_taken, List.forall_mem_cons.mpr ⟨uX7_tellingNumbers, List.forall_mem_cons.mpr ⟨uX7_tellingStreams, List.forall_mem_cons.mpr ⟨uX7_tells, List.forall_mem_cons.mpr ⟨uX7_text, List.forall_mem_cons.mpr ⟨uX7_there, List.forall_mem_cons.mpr ⟨uX7_twist, List.forall_mem_cons.mpr ⟨uX8_back, List.forall_mem_cons.mpr ⟨uX8_begins, List.forall_mem_cons.mpr ⟨uX8_byteAt, List.forall_mem_cons.mpr ⟨uX8_copy, List.forall_mem_cons.mpr ⟨uX8_count, List.forall_mem_cons.mpr ⟨uX8_cuts, List.forall_mem_cons.mpr ⟨uX8_differ, List.forall_mem_cons.mpr ⟨uX8_digits, fun _ h => absurd h List.not_mem_nil⟩⟩⟩⟩⟩⟩⟩⟩⟩⟩⟩⟩⟩⟩⟩⟩⟩⟩⟩⟩⟩⟩⟩⟩⟩⟩⟩⟩⟩⟩⟩⟩
theorem xu_4 : ∀ e ∈ xall_4, ∀ r ∈ e.2.1, xchk1 e.1.2.1 r = true := List.forall_mem_cons.mpr ⟨uX8_empty, List.forall_mem_cons.mpr ⟨uX8_entry, List.forall_mem_cons.mpr ⟨uX8_fail, List.forall_mem_cons.mpr ⟨uX8_feed, List.forall_mem_cons.mpr ⟨uX8_film, List.forall_mem_cons.mpr ⟨uX8_find, List.forall_mem_cons.mpr ⟨uX8_followed, List.forall_mem_cons.mpr ⟨uX8_forget, List.forall_mem_cons.mpr ⟨uX8_full, List.forall_mem_cons.mpr ⟨uX8_gap, List.forall_mem_cons.mpr ⟨uX8_groupOf, List.forall_mem_cons.mpr ⟨uX8_head, List.forall_mem_cons.mpr ⟨uX8_headAsked, List.forall_mem_cons.mpr ⟨uX8_image, List.forall_mem_cons.mpr ⟨uX8_in, List.forall_mem_cons.mpr ⟨uX8_init, List.forall_mem_cons.mpr ⟨uX8_is, List.forall_mem_cons.mpr ⟨uX8_isFull, List.forall_mem_cons.mpr ⟨uX8_isLetter, List.forall_mem_cons.mpr ⟨uX8_isNumbered, List.forall_mem_cons.mpr ⟨uX8_isPart, List.forall_mem_cons.mpr ⟨uX8_isSheet, List.forall_mem_cons.mpr ⟨uX8_isSign, List.forall_mem_cons.mpr ⟨uX8_isSignByte, List.forall_mem_cons.mpr ⟨uX8_isSo, List.forall_mem_cons.mpr ⟨uX8_isStream, List.forall_mem_cons.mpr ⟨uX8_isWord, List.forall_mem_cons.mpr ⟨uX8_item, List.forall_mem_cons.mpr ⟨uX8_joined, List.forall_mem_cons.mpr ⟨uX8_keeps, List.forall_mem_cons.mpr ⟨uX8_kindOf, List.forall_mem_cons.mpr ⟨uX8_kindWord, fun _ h => absurd h List.not_mem_nil⟩⟩⟩⟩⟩⟩⟩⟩⟩⟩⟩⟩⟩⟩⟩⟩⟩⟩⟩⟩⟩⟩⟩⟩⟩⟩⟩⟩⟩⟩⟩⟩
theorem xu_5 : ∀ e ∈ xall_5, ∀ r ∈ e.2.1, xchk1 e.1.2.1 r = true := List.forall_mem_cons.mpr ⟨uX8_lay, List.forall_mem_cons.mpr ⟨uX8_laysAside, List.forall_mem_cons.mpr ⟨uX8_laysBack, List.forall_mem_cons.mpr ⟨uX8_limit, List.forall_mem_cons.mpr ⟨uX8_list, List.forall_mem_cons.mpr ⟨uX8_merges, List.forall_mem_cons.mpr ⟨uX8_need, List.forall_mem_cons.mpr ⟨uX8_next, List.forall_mem_cons.mpr ⟨uX8_num, List.forall_mem_cons.mpr ⟨uX8_number, List.forall_mem_cons.mpr ⟨uX8_op, List.forall_mem_cons.mpr ⟨uX8_other, List.forall_mem_cons.mpr ⟨uX8_outcome, List.forall_mem_cons.mpr ⟨uX8_part, List.forall_mem_cons.mpr ⟨uX8_passes, List.forall_mem_cons.mpr ⟨uX8_place, List.forall_mem_cons.mpr ⟨uX8_plain, List.forall_mem_cons.mpr ⟨uX8_print, List.forall_mem_cons.mpr ⟨uX8_prints, List.forall_mem_cons.mpr ⟨uX8_put, List.forall_mem_cons.mpr ⟨uX8_puts, List.forall_mem_cons.mpr ⟨uX8_rises, List.forall_mem_cons.mpr ⟨uX8_row, List.forall_mem_cons.mpr ⟨uX8_sheet, List.forall_mem_cons.mpr ⟨uX8_sieved, List.forall_mem_cons.mpr ⟨uX8_sum, List.forall_mem_cons.mpr ⟨uX8_taken, List.forall_mem_cons.mpr ⟨uX8_tells, List.forall_mem_cons.mpr ⟨uX8_tellsHead, List.forall_mem_cons.mpr ⟨uX8_tellsPlace, List.forall_mem_cons.mpr ⟨uX8_text, List.forall_mem_cons.mpr ⟨uX8_there, fun _ h => absurd h List.not_mem_nil⟩⟩⟩⟩⟩⟩⟩⟩⟩⟩⟩⟩⟩⟩⟩⟩⟩⟩⟩⟩⟩⟩⟩⟩⟩⟩⟩⟩⟩⟩⟩⟩
theorem xu_6 : ∀ e ∈ xall_6, ∀ r ∈ e.2.1, xchk1 e.1.2.1 r = true := List.forall_mem_cons.mpr ⟨uX8_toldAll, List.forall_mem_cons.mpr ⟨uX8_toldHeads, List.forall_mem_cons.mpr ⟨uX8_twist, List.forall_mem_cons.mpr ⟨uX8_untells, List.forall_mem_cons.mpr ⟨uX8_word, fun _ h => absurd h List.not_mem_nil⟩⟩⟩⟩⟩
theorem xok_ins : ∀ M pc i, xIns xg M pc = some i → ∃ n, decode (xMet xg M).2.1 pc = .ok (i, n) ∧ (xsw i = true ∨ n = xlen i) := by
  intro M pc i h
  have h : (match xent M with | some e => xtab e.2.1 pc | none => none) = some i := h
  split at h
  · rename_i e he
    rw [xent_met he]
    exact xtab_ok (xent_all (P := fun e => ∀ r ∈ e.2.1, xchk1 e.1.2.1 r = true) xu_0 xu_1 xu_2 xu_3 xu_4 xu_5 xu_6 he) h
  · cases h
def xclOK (q : vw_C) : Bool := (u_ws q.1 q.2.1 q.2.2).all (fun w => decide (w ∈ lw_tbl) && goodWord w)
theorem xclOK_all : vwCl.all xclOK = true := by decide +kernel
theorem xcl_ws {ci : Nat} {C : String} {T : u_T} {N : Nat} (h : vwCl[ci]? = some (C, T, N)) : ∀ w ∈ u_ws C T N, w ∈ xTs := by
  intro w hw
  have h1 : xclOK (C, T, N) = true := List.all_eq_true.mp xclOK_all _ (List.mem_of_getElem? h)
  have h2 := List.all_eq_true.mp h1 w hw
  simp only [Bool.and_eq_true, decide_eq_true_eq] at h2
  exact List.mem_filter.mpr h2
def xckF (own : String) (q : Nat × Nat × Nat × Nat) : Bool := match vwCl[q.2.1]? with
  | some (_, T, N) => decide (q.2.2.1 < N) && xis q.2.2.2 (.fieldLink own q.1 (T q.2.2.1).1 (T q.2.2.1).2.1 (T q.2.2.1).2.2.1)
  | none => false
def xckFl (l : List (Nat × Nat × Nat × Nat)) (own : String) : Bool := l.all (xckF own)
theorem xckF_all : (List.zip xlF xcn).all (fun q => xckFl q.1 q.2) = true := by decide +kernel
theorem xok_fld : ∀ M k ci j, xFld xg M k = some (ci, j) → ∃ (C : String) (T : u_T) (N : Nat), vwCl[ci]? = some (C, T, N) ∧ j < N ∧ (∀ w ∈ u_ws C T N, w ∈ xTs) ∧ Cond.fieldLink (xMet xg M).1.cls k (T j).1 (T j).2.1 (T j).2.2.1 ∈ xTs := by
  intro M k ci j h
  have h : (match xlk xlF M k with | some (ci, j, _) => some (ci, j) | none => none) = some (ci, j) := h
  split at h
  · rename_i ci' j' pl hq
    cases h
    obtain ⟨e, r, he, hr, hm⟩ := xlk_in hq
    have h1 := List.all_eq_true.mp (xzip (f := xckFl) xckF_all hr (xent_cn he)) _ hm
    unfold xckF at h1
    split at h1
    · rename_i C T N hc
      simp only [Bool.and_eq_true, decide_eq_true_eq] at h1
      exact ⟨C, T, N, hc, h1.1, xcl_ws hc, xis_in h1.2⟩
    · cases h1
  · cases h
def xtyp (T : u_T) (k : Nat) : FieldType := (parseFieldDescriptor (T k).2.2.1).getD .int
def xclT (q : vw_C) : Bool := (List.range q.2.2).all (fun k => (parseFieldDescriptor (q.2.1 k).2.2.1).isSome)
theorem xclT_all : vwCl.all xclT = true := by decide +kernel
theorem xcl_ty {ci : Nat} {C : String} {T : u_T} {N : Nat} (h : vwCl[ci]? = some (C, T, N)) : ∀ k, k < N → parseFieldDescriptor (T k).2.2.1 = some (xtyp T k) := by
  intro k hk
  have h1 : xclT (C, T, N) = true := List.all_eq_true.mp xclT_all _ (List.mem_of_getElem? h)
  have h2 := List.all_eq_true.mp h1 k (List.mem_range.mpr hk)
  obtain ⟨v, hv⟩ := Option.isSome_iff_exists.mp h2
  have hv : parseFieldDescriptor (T k).2.2.1 = some v := hv
  rw [hv, xtyp, hv]; rfl
def xclN (q : vw_C) : Bool := (List.range q.2.2).all (fun a => (List.range q.2.2).all (fun b => decide (a = b) || !decide ((q.2.1 a).2.1 = (q.2.1 b).2.1)))
theorem xclN_all : vwCl.all xclN = true := by decide +kernel
theorem xcl_nm {ci : Nat} {C : String} {T : u_T} {N : Nat} (h : vwCl[ci]? = some (C, T, N)) : ∀ a, a < N → ∀ b, b < N → a ≠ b → (T a).2.1 ≠ (T b).2.1 := by
  intro a ha b hb hab he
  have h1 : xclN (C, T, N) = true := List.all_eq_true.mp xclN_all _ (List.mem_of_getElem? h)
  have h2 := List.all_eq_true.mp (List.all_eq_true.mp h1 a (List.mem_range.mpr ha)) b (List.mem_range.mpr hb)
  simp only [Bool.or_eq_true, decide_eq_true_eq, Bool.not_eq_true', decide_eq_false_iff_not] at h2
  rcases h2 with z | z
  · exact hab z
  · exact z he
def xckP (own : String) (q : Nat × Nat × Nat × FieldType × Bool × Nat) : Bool := match vwCl[q.2.1]? with
  | some (C, T, N) => decide (q.2.2.1 < N) && xis q.2.2.2.2.2 (.fieldLink own q.1 (T q.2.2.1).1 (T q.2.2.1).2.1 (T q.2.2.1).2.2.1) && decide (xtyp T q.2.2.1 = q.2.2.2.1) && decide ((T q.2.2.1).2.2.2 = q.2.2.2.2.1) && decide ((T q.2.2.1).1 = C)
  | none => false
def xckPl (l : List (Nat × Nat × Nat × FieldType × Bool × Nat)) (own : String) : Bool := l.all (xckP own)
theorem xckP_all : (List.zip xlP xcn).all (fun q => xckPl q.1 q.2) = true := by decide +kernel
theorem xok_put : ∀ M k ci j ty, xPut xg M k = some (ci, j, ty) → ∃ (C : String) (T : u_T) (N : Nat) (ty0 : Nat → FieldType), vwCl[ci]? = some (C, T, N) ∧ j < N ∧ (∀ w ∈ u_ws C T N, w ∈ xTs) ∧ Cond.fieldLink (xMet xg M).1.cls k (T j).1 (T j).2.1 (T j).2.2.1 ∈ xTs ∧ (∀ k, k < N → parseFieldDescriptor (T k).2.2.1 = some (ty0 k)) ∧ ty0 j = ty ∧ (∀ a, a < N → ∀ b, b < N → a ≠ b → (T a).2.1 ≠ (T b).2.1) ∧ ((T j).2.2.2 = false ∨ ((T j).2.2.2 = true ∧ (xMet xg M).1.name = "<init>" ∧ (T j).1 = (xMet xg M).1.cls)) := by
  intro M k ci j ty h
  have h : (match xent M, xlk xlP M k with | some e, some (ci, j, ty, fin, _) => if fin = true ∧ ¬ (e.2.2.2.2 = true ∧ e.2.2.2.1 = ci) then none else some (ci, j, ty) | _, _ => none) = some (ci, j, ty) := h
  split at h
  · rename_i e ci' j' ty' fin pl he0 hq
    split at h
    · cases h
    · rename_i hfin
      cases h
      obtain ⟨e', r, he, hr, hm⟩ := xlk_in hq
      have h1 := List.all_eq_true.mp (xzip (f := xckPl) xckP_all hr (xent_cn he)) _ hm
      unfold xckP at h1
      split at h1
      · rename_i C T N hc
        simp only [Bool.and_eq_true, decide_eq_true_eq] at h1
        obtain ⟨⟨⟨⟨h2, h3⟩, h4⟩, h5⟩, h6⟩ := h1
        refine ⟨C, T, N, xtyp T, hc, h2, xcl_ws hc, xis_in h3, xcl_ty hc, h4, xcl_nm hc, ?_⟩
        cases hf : fin with
        | false => rw [hf] at h5; exact Or.inl h5
        | true =>
          rw [hf] at h5 hfin
          have h7 : e.2.2.2.2 = true ∧ e.2.2.2.1 = ci := Decidable.not_not.mp (fun z => hfin ⟨rfl, z⟩)
          have h8 := xentOK_all he0
          simp only [xentOK, Bool.and_eq_true, h7.1, Bool.not_true, Bool.false_or, decide_eq_true_eq, Bool.or_eq_true, beq_iff_eq, h7.2] at h8
          refine Or.inr ⟨h5, by rw [xent_met he0]; exact h8.1.2, ?_⟩
          rw [h6, xent_met he0]
          rcases h8.2 with z | z
          · subst z; cases hc
          · have hc' : vwCl[ci]? = some (C, T, N) := hc
            rw [hc'] at z
            exact of_decide_eq_true z
      · cases h1
  · cases h
def xckC (own : String) (q : Nat × Nat × Nat) : Bool := match vwCl[q.2.1]? with
  | some (C, _, _) => xis q.2.2 (.classLink own q.1 C)
  | none => false
def xckCl (l : List (Nat × Nat × Nat)) (own : String) : Bool := l.all (xckC own)
theorem xckC_all : (List.zip xlC xcn).all (fun q => xckCl q.1 q.2) = true := by decide +kernel
def xdfv (v : Value) : Bool := match v with
  | .int _ | .long _ | .null => true
  | _ => false
def xclD (q : vw_C) (d : List Value) : Bool := decide (Cond.instantiable q.1 q.2.2 ∈ lw_tbl) && goodWord (.instantiable q.1 q.2.2) && decide (Cond.initialized q.1 ∈ lw_tbl) && goodWord (.initialized q.1) && decide (d.length = q.2.2) && d.all xdfv && (List.range q.2.2).all (fun j => decide (defaultValue (xtyp q.2.1 j) = vp_V d j))
theorem xclD_all : (List.zip vwCl xdf).all (fun q => xclD q.1 q.2) = true := by decide +kernel
theorem xdfv_map (base b : Nat) {d : List Value} (h : d.all xdfv = true) : d.map (xv base b) = d := by
  induction d with
  | nil => rfl
  | cons v t ih =>
    simp only [List.all_cons, Bool.and_eq_true] at h
    rw [List.map_cons, ih h.2]
    cases v <;> first | rfl | (exact absurd h.1 (by decide)) | cases h.1
theorem xok_cls : ∀ M k ci, xCls xg M k = some ci → ∃ (C : String) (T : u_T) (N : Nat) (ty : Nat → FieldType), vwCl[ci]? = some (C, T, N) ∧ (∀ w ∈ u_ws C T N, w ∈ xTs) ∧ (∀ k, k < N → parseFieldDescriptor (T k).2.2.1 = some (ty k)) ∧ Cond.classLink (xMet xg M).1.cls k C ∈ xTs ∧ Cond.instantiable C N ∈ xTs ∧ Cond.initialized C ∈ xTs ∧ (xDfl xg ci).length = N ∧ (∀ base b, (xDfl xg ci).map (xv base b) = xDfl xg ci) ∧ ∀ j, j < N → defaultValue (ty j) = vp_V (xDfl xg ci) j := by
  intro M k ci h
  have h : (match xlk xlC M k with | some (ci, _) => some ci | none => none) = some ci := h
  split at h
  · rename_i ci' pl hq
    cases h
    obtain ⟨e, r, he, hr, hm⟩ := xlk_in hq
    have h1 := List.all_eq_true.mp (xzip (f := xckCl) xckC_all hr (xent_cn he)) _ hm
    unfold xckC at h1
    split at h1
    · rename_i C T N hc
      have hl : ci < 8 := by
        have := (List.getElem?_eq_some_iff.mp hc).1
        simpa using this
      obtain ⟨d, hd⟩ : ∃ d, xdf[ci]? = some d := ⟨_, List.getElem?_eq_getElem (by simpa [xdf] using hl)⟩
      have h2 := xzip (f := xclD) xclD_all hc hd
      simp only [xclD, Bool.and_eq_true, decide_eq_true_eq] at h2
      obtain ⟨⟨⟨⟨⟨⟨a1, a2⟩, a3⟩, a4⟩, a5⟩, a6⟩, a7⟩ := h2
      have hdd : xDfl xg ci = d := by show xdf.getD ci [] = d; rw [List.getD_eq_getElem?_getD, hd]; rfl
      rw [hdd]
      refine ⟨C, T, N, xtyp T, hc, xcl_ws hc, xcl_ty hc, xis_in h1, List.mem_filter.mpr ⟨a1, a2⟩, List.mem_filter.mpr ⟨a3, a4⟩, a5, fun base b => xdfv_map base b a6, fun j hj => ?_⟩
      have := List.all_eq_true.mp a7 j (List.mem_range.mpr hj)
      simpa using this
    · cases h1
  · cases h
def xckV (own : String) (q : Nat × Value × Nat) : Bool := match q.2.1 with
  | .int v => xis q.2.2 (.constant own q.1 v)
  | .long v => xis q.2.2 (.constantLong own q.1 v)
  | _ => false
def xckVl (l : List (Nat × Value × Nat)) (own : String) : Bool := l.all (xckV own)
theorem xckV_all : (List.zip xlV xcn).all (fun q => xckVl q.1 q.2) = true := by decide +kernel
theorem xok_con : ∀ M k v, xCon xg M k = some v → ∃ pl, xckV (xMet xg M).1.cls (k, v, pl) = true := by
  intro M k v h
  have h : (match xlk xlV M k with | some (v, _) => some v | none => none) = some v := h
  split at h
  · rename_i v' pl hq
    cases h
    obtain ⟨e, r, he, hr, hm⟩ := xlk_in hq
    exact ⟨pl, List.all_eq_true.mp (xzip (f := xckVl) xckV_all hr (xent_cn he)) _ hm⟩
  · cases h
theorem xok_arr : Cond.arrayClass .int ∈ xTs ∧ Cond.arrayClass .long ∈ xTs ∧ Cond.arrayClass .byte ∈ xTs ∧ Cond.arrayClass .boolean ∈ xTs := ⟨xis_in (i := 172) (by decide +kernel), xis_in (i := 173) (by decide +kernel), xis_in (i := 274) (by decide +kernel), xis_in (i := 273) (by decide +kernel)⟩
theorem xg_ok : xOK xg vwCl xTs := by
  refine ⟨xok_ins, xok_fld, xok_put, xok_cls, fun M k v h => ?_, fun M k v h => ?_, xok_arr, fun w hw => (List.mem_filter.mp hw).2⟩
  · obtain ⟨pl, h1⟩ := xok_con M k _ h
    exact xis_in h1
  · obtain ⟨pl, h1⟩ := xok_con M k _ h
    exact xis_in h1
end
section
def xnest : xNs := [("LateRows", 9, yX2_init, "LateRows"), ("LateRows", 18, yX1_init, "LateRows")]
def xcode (N : Nat) : Bool := match xent N, xpl N with
  | some e, some q => plainName e.1.1.cls && xis q.2.1 (.initialized e.1.1.cls) && !decide (e.1.1.cls = "java/lang/invoke/MethodHandle") && !decide (e.1.1.cls = "java/lang/invoke/VarHandle") && decide (e.1.2.2.1 ≤ 40)
  | _, _ => false
def xcodes (a n : Nat) : Bool := (List.range n).all (fun i => xcode (a + i))
theorem xcodes_0 : xcodes 1 196 = true := by decide +kernel
theorem xcode_all {N : Nat} (h0 : 0 < N) (h : N < 197) : xcode N = true := by
  have := List.all_eq_true.mp xcodes_0 (N - 1) (List.mem_range.mpr (by omega))
  rw [show 1 + (N - 1) = N by omega] at this
  exact this
set_option maxRecDepth 100000 in
theorem xcwX0_allows : Cond.code yX0_allows cX0_allows 2 (some .boolean) ∈ xTs := List.mem_filter.mpr ⟨List.mem_append_right _ (List.mem_append_right _ (List.mem_append_right _ (List.mem_append_left _ (List.mem_of_getElem? (i := 70) (l := tables_1_3) rfl)))), rfl⟩
set_option maxRecDepth 100000 in
theorem xcwX0_hasNumber : Cond.code yX0_hasNumber cX0_hasNumber 1 (some .boolean) ∈ xTs := List.mem_filter.mpr ⟨List.mem_append_right _ (List.mem_append_right _ (List.mem_append_right _ (List.mem_append_left _ (List.mem_of_getElem? (i := 59) (l := tables_1_3) rfl)))), rfl⟩
set_option maxRecDepth 100000 in
theorem xcwX0_rows : Cond.code yX0_rows cX0_rows 1 (some .int) ∈ xTs := List.mem_filter.mpr ⟨List.mem_append_right _ (List.mem_append_right _ (List.mem_append_right _ (List.mem_append_left _ (List.mem_of_getElem? (i := 11) (l := tables_1_3) rfl)))), rfl⟩
set_option maxRecDepth 100000 in
theorem xcwX0_shape : Cond.code yX0_shape cX0_shape 1 (some (.object "java/lang/String")) ∈ xTs := List.mem_filter.mpr ⟨List.mem_append_right _ (List.mem_append_right _ (List.mem_append_left _ (List.mem_of_getElem? (i := 214) (l := tables_1_2) rfl))), rfl⟩
set_option maxRecDepth 100000 in
theorem xcwX0_word : Cond.code yX0_word cX0_word 1 (some (.object "java/lang/String")) ∈ xTs := List.mem_filter.mpr ⟨List.mem_append_right _ (List.mem_append_right _ (List.mem_append_left _ (List.mem_of_getElem? (i := 159) (l := tables_1_2) rfl))), rfl⟩
set_option maxRecDepth 100000 in
theorem xcwX1_init : Cond.code yX1_init cX1_init 1 none ∈ xTs := List.mem_filter.mpr ⟨List.mem_append_right _ (List.mem_append_left _ (List.mem_of_getElem? (i := 121) (l := tables_1_1) rfl)), rfl⟩
set_option maxRecDepth 100000 in
theorem xcwX1_writeBlank : Cond.code yX1_writeBlank cX1_writeBlank 1 none ∈ xTs := List.mem_filter.mpr ⟨List.mem_append_right _ (List.mem_append_right _ (List.mem_append_right _ (List.mem_append_left _ (List.mem_of_getElem? (i := 95) (l := tables_1_3) rfl)))), rfl⟩
set_option maxRecDepth 100000 in
theorem xcwX1_writeByte : Cond.code yX1_writeByte cX1_writeByte 2 none ∈ xTs := List.mem_filter.mpr ⟨List.mem_append_right _ (List.mem_append_right _ (List.mem_append_right _ (List.mem_append_left _ (List.mem_of_getElem? (i := 99) (l := tables_1_3) rfl)))), rfl⟩
set_option maxRecDepth 100000 in
theorem xcwX1_writeField : Cond.code yX1_writeField cX1_writeField 4 none ∈ xTs := List.mem_filter.mpr ⟨List.mem_append_right _ (List.mem_append_right _ (List.mem_append_right _ (List.mem_append_left _ (List.mem_of_getElem? (i := 111) (l := tables_1_3) rfl)))), rfl⟩
set_option maxRecDepth 100000 in
theorem xcwX1_writeNum : Cond.code yX1_writeNum cX1_writeNum 8 none ∈ xTs := List.mem_filter.mpr ⟨List.mem_append_right _ (List.mem_append_right _ (List.mem_append_right _ (List.mem_append_left _ (List.mem_of_getElem? (i := 115) (l := tables_1_3) rfl)))), rfl⟩
set_option maxRecDepth 100000 in
theorem xcwX1_writeNums : Cond.code yX1_writeNums cX1_writeNums 4 none ∈ xTs := List.mem_filter.mpr ⟨List.mem_append_right _ (List.mem_append_right _ (List.mem_append_right _ (List.mem_append_left _ (List.mem_of_getElem? (i := 121) (l := tables_1_3) rfl)))), rfl⟩
set_option maxRecDepth 100000 in
theorem xcwX1_writePart : Cond.code yX1_writePart cX1_writePart 6 none ∈ xTs := List.mem_filter.mpr ⟨List.mem_append_right _ (List.mem_append_right _ (List.mem_append_right _ (List.mem_append_left _ (List.mem_of_getElem? (i := 87) (l := tables_1_3) rfl)))), rfl⟩
set_option maxRecDepth 100000 in
theorem xcwX1_writeSign : Cond.code yX1_writeSign cX1_writeSign 2 none ∈ xTs := List.mem_filter.mpr ⟨List.mem_append_right _ (List.mem_append_right _ (List.mem_append_right _ (List.mem_append_left _ (List.mem_of_getElem? (i := 91) (l := tables_1_3) rfl)))), rfl⟩
set_option maxRecDepth 100000 in
theorem xcwX1_writeStream : Cond.code yX1_writeStream cX1_writeStream 5 none ∈ xTs := List.mem_filter.mpr ⟨List.mem_append_right _ (List.mem_append_right _ (List.mem_append_right _ (List.mem_append_left _ (List.mem_of_getElem? (i := 83) (l := tables_1_3) rfl)))), rfl⟩
set_option maxRecDepth 100000 in
theorem xcwX1_writeWord : Cond.code yX1_writeWord cX1_writeWord 3 none ∈ xTs := List.mem_filter.mpr ⟨List.mem_append_right _ (List.mem_append_right _ (List.mem_append_right _ (List.mem_append_left _ (List.mem_of_getElem? (i := 104) (l := tables_1_3) rfl)))), rfl⟩
set_option maxRecDepth 100000 in
theorem xcwX2_addByte : Cond.code yX2_addByte cX2_addByte 2 (some .int) ∈ xTs := List.mem_filter.mpr ⟨List.mem_append_right _ (List.mem_append_right _ (List.mem_append_left _ (List.mem_of_getElem? (i := 43) (l := tables_1_2) rfl))), rfl⟩
set_option maxRecDepth 100000 in
theorem xcwX2_init : Cond.code yX2_init cX2_init 1 none ∈ xTs := List.mem_filter.mpr ⟨List.mem_append_right _ (List.mem_append_left _ (List.mem_of_getElem? (i := 29) (l := tables_1_1) rfl)), rfl⟩
set_option maxRecDepth 100000 in
theorem xcwX2_isSign : Cond.code yX2_isSign cX2_isSign 2 (some .boolean) ∈ xTs := List.mem_filter.mpr ⟨List.mem_append_right _ (List.mem_append_right _ (List.mem_append_right _ (List.mem_append_left _ (List.mem_of_getElem? (i := 0) (l := tables_1_3) rfl)))), rfl⟩
set_option maxRecDepth 100000 in
theorem xcwX2_isWord : Cond.code yX2_isWord cX2_isWord 5 (some .boolean) ∈ xTs := List.mem_filter.mpr ⟨List.mem_append_right _ (List.mem_append_right _ (List.mem_append_left _ (List.mem_of_getElem? (i := 177) (l := tables_1_2) rfl))), rfl⟩
set_option maxRecDepth 100000 in
theorem xcwX2_kindOfWord : Cond.code yX2_kindOfWord cX2_kindOfWord 4 (some .int) ∈ xTs := List.mem_filter.mpr ⟨List.mem_append_right _ (List.mem_append_right _ (List.mem_append_left _ (List.mem_of_getElem? (i := 156) (l := tables_1_2) rfl))), rfl⟩
set_option maxRecDepth 100000 in
theorem xcwX2_meaningOf : Cond.code yX2_meaningOf cX2_meaningOf 6 (some .int) ∈ xTs := List.mem_filter.mpr ⟨List.mem_append_right _ (List.mem_append_right _ (List.mem_append_left _ (List.mem_of_getElem? (i := 152) (l := tables_1_2) rfl))), rfl⟩
set_option maxRecDepth 100000 in
theorem xcwX2_miss : Cond.code yX2_miss cX2_miss 1 none ∈ xTs := List.mem_filter.mpr ⟨List.mem_append_right _ (List.mem_append_right _ (List.mem_append_left _ (List.mem_of_getElem? (i := 211) (l := tables_1_2) rfl))), rfl⟩
set_option maxRecDepth 100000 in
theorem xcwX2_readField : Cond.code yX2_readField cX2_readField 3 none ∈ xTs := List.mem_filter.mpr ⟨List.mem_append_right _ (List.mem_append_right _ (List.mem_append_left _ (List.mem_of_getElem? (i := 226) (l := tables_1_2) rfl))), rfl⟩
set_option maxRecDepth 100000 in
theorem xcwX2_readNum : Cond.code yX2_readNum cX2_readNum 3 (some .int) ∈ xTs := List.mem_filter.mpr ⟨List.mem_append_right _ (List.mem_append_right _ (List.mem_append_left _ (List.mem_of_getElem? (i := 236) (l := tables_1_2) rfl))), rfl⟩
set_option maxRecDepth 100000 in
theorem xcwX2_readNumber : Cond.code yX2_readNumber cX2_readNumber 4 (some .int) ∈ xTs := List.mem_filter.mpr ⟨List.mem_append_right _ (List.mem_append_right _ (List.mem_append_right _ (List.mem_append_left _ (List.mem_of_getElem? (i := 4) (l := tables_1_3) rfl)))), rfl⟩
set_option maxRecDepth 100000 in
theorem xcwX2_readNums : Cond.code yX2_readNums cX2_readNums 4 none ∈ xTs := List.mem_filter.mpr ⟨List.mem_append_right _ (List.mem_append_right _ (List.mem_append_right _ (List.mem_append_left _ (List.mem_of_getElem? (i := 8) (l := tables_1_3) rfl)))), rfl⟩
set_option maxRecDepth 100000 in
theorem xcwX2_readPart : Cond.code yX2_readPart cX2_readPart 5 none ∈ xTs := List.mem_filter.mpr ⟨List.mem_append_right _ (List.mem_append_right _ (List.mem_append_left _ (List.mem_of_getElem? (i := 202) (l := tables_1_2) rfl))), rfl⟩
set_option maxRecDepth 100000 in
theorem xcwX2_readSign : Cond.code yX2_readSign cX2_readSign 3 (some .int) ∈ xTs := List.mem_filter.mpr ⟨List.mem_append_right _ (List.mem_append_right _ (List.mem_append_left _ (List.mem_of_getElem? (i := 231) (l := tables_1_2) rfl))), rfl⟩
set_option maxRecDepth 100000 in
theorem xcwX2_readTape : Cond.code yX2_readTape cX2_readTape 3 (some .int) ∈ xTs := List.mem_filter.mpr ⟨List.mem_append_right _ (List.mem_append_right _ (List.mem_append_left _ (List.mem_of_getElem? (i := 54) (l := tables_1_2) rfl))), rfl⟩
set_option maxRecDepth 100000 in
theorem xcwX2_sortOf : Cond.code yX2_sortOf cX2_sortOf 1 (some .int) ∈ xTs := List.mem_filter.mpr ⟨List.mem_append_right _ (List.mem_append_right _ (List.mem_append_left _ (List.mem_of_getElem? (i := 61) (l := tables_1_2) rfl))), rfl⟩
set_option maxRecDepth 100000 in
theorem xcwX2_splitTape : Cond.code yX2_splitTape cX2_splitTape 6 none ∈ xTs := List.mem_filter.mpr ⟨List.mem_append_right _ (List.mem_append_right _ (List.mem_append_left _ (List.mem_of_getElem? (i := 58) (l := tables_1_2) rfl))), rfl⟩
set_option maxRecDepth 100000 in
theorem xcwX3_init : Cond.code yX3_init cX3_init 2 none ∈ xTs := List.mem_filter.mpr ⟨List.mem_append_right _ (List.mem_append_left _ (List.mem_of_getElem? (i := 219) (l := tables_1_1) rfl)), rfl⟩
set_option maxRecDepth 100000 in
theorem xcwX3_isMissing : Cond.code yX3_isMissing cX3_isMissing 2 (some .boolean) ∈ xTs := List.mem_filter.mpr ⟨List.mem_append_right _ (List.mem_append_right _ (List.mem_append_right _ (List.mem_append_right _ (List.mem_append_left _ (List.mem_of_getElem? (i := 75) (l := tables_1_4) rfl))))), rfl⟩
set_option maxRecDepth 100000 in
theorem xcwX3_move : Cond.code yX3_move cX3_move 6 none ∈ xTs := List.mem_filter.mpr ⟨List.mem_append_right _ (List.mem_append_right _ (List.mem_append_right _ (List.mem_append_right _ (List.mem_append_left _ (List.mem_of_getElem? (i := 140) (l := tables_1_4) rfl))))), rfl⟩
set_option maxRecDepth 100000 in
theorem xcwX3_read : Cond.code yX3_read cX3_read 3 (some .long) ∈ xTs := List.mem_filter.mpr ⟨List.mem_append_right _ (List.mem_append_right _ (List.mem_append_right _ (List.mem_append_right _ (List.mem_append_left _ (List.mem_of_getElem? (i := 87) (l := tables_1_4) rfl))))), rfl⟩
set_option maxRecDepth 100000 in
theorem xcwX3_renew : Cond.code yX3_renew cX3_renew 5 none ∈ xTs := List.mem_filter.mpr ⟨List.mem_append_right _ (List.mem_append_right _ (List.mem_append_right _ (List.mem_append_right _ (List.mem_append_left _ (List.mem_of_getElem? (i := 60) (l := tables_1_4) rfl))))), rfl⟩
set_option maxRecDepth 100000 in
theorem xcwX3_spans : Cond.code yX3_spans cX3_spans 4 (some .boolean) ∈ xTs := List.mem_filter.mpr ⟨List.mem_append_right _ (List.mem_append_right _ (List.mem_append_right _ (List.mem_append_right _ (List.mem_append_left _ (List.mem_of_getElem? (i := 128) (l := tables_1_4) rfl))))), rfl⟩
set_option maxRecDepth 100000 in
theorem xcwX3_write : Cond.code yX3_write cX3_write 7 none ∈ xTs := List.mem_filter.mpr ⟨List.mem_append_right _ (List.mem_append_right _ (List.mem_append_right _ (List.mem_append_right _ (List.mem_append_left _ (List.mem_of_getElem? (i := 64) (l := tables_1_4) rfl))))), rfl⟩
set_option maxRecDepth 100000 in
theorem xcwX4_addUp : Cond.code yX4_addUp cX4_addUp 7 (some .int) ∈ xTs := List.mem_filter.mpr ⟨List.mem_append_right _ (List.mem_append_right _ (List.mem_append_right _ (List.mem_append_right _ (List.mem_append_left _ (List.mem_of_getElem? (i := 19) (l := tables_1_4) rfl))))), rfl⟩
set_option maxRecDepth 100000 in
theorem xcwX4_askHead : Cond.code yX4_askHead cX4_askHead 6 (some .int) ∈ xTs := List.mem_filter.mpr ⟨List.mem_append_right _ (List.mem_append_right _ (List.mem_append_right _ (List.mem_append_left _ (List.mem_of_getElem? (i := 173) (l := tables_1_3) rfl)))), rfl⟩
set_option maxRecDepth 100000 in
theorem xcwX4_askPlace : Cond.code yX4_askPlace cX4_askPlace 6 (some .int) ∈ xTs := List.mem_filter.mpr ⟨List.mem_append_right _ (List.mem_append_right _ (List.mem_append_right _ (List.mem_append_left _ (List.mem_of_getElem? (i := 145) (l := tables_1_3) rfl)))), rfl⟩
set_option maxRecDepth 100000 in
theorem xcwX4_begin : Cond.code yX4_begin cX4_begin 3 none ∈ xTs := List.mem_filter.mpr ⟨List.mem_append_right _ (List.mem_append_right _ (List.mem_append_right _ (List.mem_append_left _ (List.mem_of_getElem? (i := 137) (l := tables_1_3) rfl)))), rfl⟩
set_option maxRecDepth 100000 in
theorem xcwX4_beginsRun : Cond.code yX4_beginsRun cX4_beginsRun 1 (some .boolean) ∈ xTs := List.mem_filter.mpr ⟨List.mem_append_right _ (List.mem_append_right _ (List.mem_append_right _ (List.mem_append_left _ (List.mem_of_getElem? (i := 153) (l := tables_1_3) rfl)))), rfl⟩
set_option maxRecDepth 100000 in
theorem xcwX4_behindNames : Cond.code yX4_behindNames cX4_behindNames 5 (some .int) ∈ xTs := List.mem_filter.mpr ⟨List.mem_append_right _ (List.mem_append_right _ (List.mem_append_right _ (List.mem_append_left _ (List.mem_of_getElem? (i := 149) (l := tables_1_3) rfl)))), rfl⟩
set_option maxRecDepth 100000 in
theorem xcwX4_combine : Cond.code yX4_combine cX4_combine 6 (some .int) ∈ xTs := List.mem_filter.mpr ⟨List.mem_append_right _ (List.mem_append_right _ (List.mem_append_right _ (List.mem_append_left _ (List.mem_of_getElem? (i := 185) (l := tables_1_3) rfl)))), rfl⟩
set_option maxRecDepth 100000 in
theorem xcwX4_firstUnlike : Cond.code yX4_firstUnlike cX4_firstUnlike 9 (some .int) ∈ xTs := List.mem_filter.mpr ⟨List.mem_append_right _ (List.mem_append_right _ (List.mem_append_right _ (List.mem_append_right _ (List.mem_append_left _ (List.mem_of_getElem? (i := 37) (l := tables_1_4) rfl))))), rfl⟩
set_option maxRecDepth 100000 in
theorem xcwX4_gather : Cond.code yX4_gather cX4_gather 6 (some .int) ∈ xTs := List.mem_filter.mpr ⟨List.mem_append_right _ (List.mem_append_right _ (List.mem_append_right _ (List.mem_append_right _ (List.mem_append_left _ (List.mem_of_getElem? (i := 56) (l := tables_1_4) rfl))))), rfl⟩
set_option maxRecDepth 100000 in
theorem xcwX4_init : Cond.code yX4_init cX4_init 3 none ∈ xTs := List.mem_filter.mpr ⟨List.mem_append_right _ (List.mem_append_left _ (List.mem_of_getElem? (i := 195) (l := tables_1_1) rfl)), rfl⟩
set_option maxRecDepth 100000 in
theorem xcwX4_isThere : Cond.code yX4_isThere cX4_isThere 3 (some .int) ∈ xTs := List.mem_filter.mpr ⟨List.mem_append_right _ (List.mem_append_right _ (List.mem_append_right _ (List.mem_append_left _ (List.mem_of_getElem? (i := 141) (l := tables_1_3) rfl)))), rfl⟩
set_option maxRecDepth 100000 in
theorem xcwX4_mergePlace : Cond.code yX4_mergePlace cX4_mergePlace 14 (some .int) ∈ xTs := List.mem_filter.mpr ⟨List.mem_append_right _ (List.mem_append_right _ (List.mem_append_right _ (List.mem_append_left _ (List.mem_of_getElem? (i := 200) (l := tables_1_3) rfl)))), rfl⟩
set_option maxRecDepth 100000 in
theorem xcwX4_outcome : Cond.code yX4_outcome cX4_outcome 4 (some .int) ∈ xTs := List.mem_filter.mpr ⟨List.mem_append_right _ (List.mem_append_right _ (List.mem_append_right _ (List.mem_append_left _ (List.mem_of_getElem? (i := 216) (l := tables_1_3) rfl)))), rfl⟩
set_option maxRecDepth 100000 in
theorem xcwX4_passes : Cond.code yX4_passes cX4_passes 5 (some .int) ∈ xTs := List.mem_filter.mpr ⟨List.mem_append_right _ (List.mem_append_right _ (List.mem_append_right _ (List.mem_append_left _ (List.mem_of_getElem? (i := 192) (l := tables_1_3) rfl)))), rfl⟩
set_option maxRecDepth 100000 in
theorem xcwX4_passesOwnHeads : Cond.code yX4_passesOwnHeads cX4_passesOwnHeads 7 (some .int) ∈ xTs := List.mem_filter.mpr ⟨List.mem_append_right _ (List.mem_append_right _ (List.mem_append_right _ (List.mem_append_left _ (List.mem_of_getElem? (i := 196) (l := tables_1_3) rfl)))), rfl⟩
set_option maxRecDepth 100000 in
theorem xcwX4_placeOf : Cond.code yX4_placeOf cX4_placeOf 7 (some .int) ∈ xTs := List.mem_filter.mpr ⟨List.mem_append_right _ (List.mem_append_right _ (List.mem_append_right _ (List.mem_append_right _ (List.mem_append_left _ (List.mem_of_getElem? (i := 29) (l := tables_1_4) rfl))))), rfl⟩
set_option maxRecDepth 100000 in
theorem xcwX4_rising : Cond.code yX4_rising cX4_rising 6 (some .int) ∈ xTs := List.mem_filter.mpr ⟨List.mem_append_right _ (List.mem_append_right _ (List.mem_append_right _ (List.mem_append_right _ (List.mem_append_left _ (List.mem_of_getElem? (i := 45) (l := tables_1_4) rfl))))), rfl⟩
set_option maxRecDepth 100000 in
theorem xcwX4_seekPlace : Cond.code yX4_seekPlace cX4_seekPlace 6 (some .int) ∈ xTs := List.mem_filter.mpr ⟨List.mem_append_right _ (List.mem_append_right _ (List.mem_append_right _ (List.mem_append_left _ (List.mem_of_getElem? (i := 165) (l := tables_1_3) rfl)))), rfl⟩
set_option maxRecDepth 100000 in
theorem xcwX4_seeks : Cond.code yX4_seeks cX4_seeks 2 (some .boolean) ∈ xTs := List.mem_filter.mpr ⟨List.mem_append_right _ (List.mem_append_right _ (List.mem_append_right _ (List.mem_append_left _ (List.mem_of_getElem? (i := 161) (l := tables_1_3) rfl)))), rfl⟩
set_option maxRecDepth 100000 in
theorem xcwX4_tellHead : Cond.code yX4_tellHead cX4_tellHead 10 (some .int) ∈ xTs := List.mem_filter.mpr ⟨List.mem_append_right _ (List.mem_append_right _ (List.mem_append_right _ (List.mem_append_left _ (List.mem_of_getElem? (i := 177) (l := tables_1_3) rfl)))), rfl⟩
set_option maxRecDepth 100000 in
theorem xcwX4_tellNumber : Cond.code yX4_tellNumber cX4_tellNumber 3 (some .int) ∈ xTs := List.mem_filter.mpr ⟨List.mem_append_right _ (List.mem_append_right _ (List.mem_append_right _ (List.mem_append_left _ (List.mem_of_getElem? (i := 181) (l := tables_1_3) rfl)))), rfl⟩
set_option maxRecDepth 100000 in
theorem xcwX4_tellPlace : Cond.code yX4_tellPlace cX4_tellPlace 6 (some .int) ∈ xTs := List.mem_filter.mpr ⟨List.mem_append_right _ (List.mem_append_right _ (List.mem_append_right _ (List.mem_append_left _ (List.mem_of_getElem? (i := 204) (l := tables_1_3) rfl)))), rfl⟩
set_option maxRecDepth 100000 in
theorem xcwX5_allParts : Cond.code yX5_allParts cX5_allParts 3 (some .int) ∈ xTs := List.mem_filter.mpr ⟨List.mem_append_right _ (List.mem_append_right _ (List.mem_append_right _ (List.mem_append_right _ (List.mem_append_left _ (List.mem_of_getElem? (i := 116) (l := tables_1_4) rfl))))), rfl⟩
set_option maxRecDepth 100000 in
theorem xcwX5_clearPart : Cond.code yX5_clearPart cX5_clearPart 3 none ∈ xTs := List.mem_filter.mpr ⟨List.mem_append_right _ (List.mem_append_right _ (List.mem_append_left _ (List.mem_of_getElem? (i := 207) (l := tables_1_2) rfl))), rfl⟩
set_option maxRecDepth 100000 in
theorem xcwX5_close : Cond.code yX5_close cX5_close 8 none ∈ xTs := List.mem_filter.mpr ⟨List.mem_append_right _ (List.mem_append_right _ (List.mem_append_right _ (List.mem_append_left _ (List.mem_of_getElem? (i := 15) (l := tables_1_3) rfl)))), rfl⟩
set_option maxRecDepth 100000 in
theorem xcwX5_filledStreams : Cond.code yX5_filledStreams cX5_filledStreams 3 (some .int) ∈ xTs := List.mem_filter.mpr ⟨List.mem_append_right _ (List.mem_append_right _ (List.mem_append_right _ (List.mem_append_right _ (List.mem_append_left _ (List.mem_of_getElem? (i := 104) (l := tables_1_4) rfl))))), rfl⟩
set_option maxRecDepth 100000 in
theorem xcwX5_firstRow : Cond.code yX5_firstRow cX5_firstRow 2 (some .int) ∈ xTs := List.mem_filter.mpr ⟨List.mem_append_right _ (List.mem_append_right _ (List.mem_append_right _ (List.mem_append_left _ (List.mem_of_getElem? (i := 169) (l := tables_1_3) rfl)))), rfl⟩
set_option maxRecDepth 100000 in
theorem xcwX5_init : Cond.code yX5_init cX5_init 3 none ∈ xTs := List.mem_filter.mpr ⟨List.mem_append_right _ (List.mem_append_left _ (List.mem_of_getElem? (i := 35) (l := tables_1_1) rfl)), rfl⟩
set_option maxRecDepth 100000 in
theorem xcwX5_secondRow : Cond.code yX5_secondRow cX5_secondRow 2 (some .int) ∈ xTs := List.mem_filter.mpr ⟨List.mem_append_right _ (List.mem_append_right _ (List.mem_append_right _ (List.mem_append_left _ (List.mem_of_getElem? (i := 189) (l := tables_1_3) rfl)))), rfl⟩
set_option maxRecDepth 100000 in
theorem xcwX5_takeAll : Cond.code yX5_takeAll cX5_takeAll 3 none ∈ xTs := List.mem_filter.mpr ⟨List.mem_append_right _ (List.mem_append_right _ (List.mem_append_right _ (List.mem_append_right _ (List.mem_append_left _ (List.mem_of_getElem? (i := 99) (l := tables_1_4) rfl))))), rfl⟩
set_option maxRecDepth 100000 in
theorem xcwX5_takeParts : Cond.code yX5_takeParts cX5_takeParts 5 none ∈ xTs := List.mem_filter.mpr ⟨List.mem_append_right _ (List.mem_append_right _ (List.mem_append_right _ (List.mem_append_left _ (List.mem_of_getElem? (i := 24) (l := tables_1_3) rfl)))), rfl⟩
set_option maxRecDepth 100000 in
theorem xcwX5_takeStream : Cond.code yX5_takeStream cX5_takeStream 4 none ∈ xTs := List.mem_filter.mpr ⟨List.mem_append_right _ (List.mem_append_right _ (List.mem_append_right _ (List.mem_append_left _ (List.mem_of_getElem? (i := 20) (l := tables_1_3) rfl)))), rfl⟩
set_option maxRecDepth 100000 in
theorem xcwX6_allHeads : Cond.code yX6_allHeads cX6_allHeads 3 (some .int) ∈ xTs := List.mem_filter.mpr ⟨List.mem_append_right _ (List.mem_append_right _ (List.mem_append_right _ (List.mem_append_right _ (List.mem_append_left _ (List.mem_of_getElem? (i := 11) (l := tables_1_4) rfl))))), rfl⟩
set_option maxRecDepth 100000 in
theorem xcwX6_allPlaces : Cond.code yX6_allPlaces cX6_allPlaces 3 (some .int) ∈ xTs := List.mem_filter.mpr ⟨List.mem_append_right _ (List.mem_append_right _ (List.mem_append_right _ (List.mem_append_right _ (List.mem_append_left _ (List.mem_of_getElem? (i := 7) (l := tables_1_4) rfl))))), rfl⟩
set_option maxRecDepth 100000 in
theorem xcwX6_init : Cond.code yX6_init cX6_init 3 none ∈ xTs := List.mem_filter.mpr ⟨List.mem_append_right _ (List.mem_append_left _ (List.mem_of_getElem? (i := 138) (l := tables_1_1) rfl)), rfl⟩
set_option maxRecDepth 100000 in
theorem xcwX6_meet : Cond.code yX6_meet cX6_meet 2 none ∈ xTs := List.mem_filter.mpr ⟨List.mem_append_right _ (List.mem_append_right _ (List.mem_append_right _ (List.mem_append_left _ (List.mem_of_getElem? (i := 157) (l := tables_1_3) rfl)))), rfl⟩
set_option maxRecDepth 100000 in
theorem xcwX6_takeAll : Cond.code yX6_takeAll cX6_takeAll 3 none ∈ xTs := List.mem_filter.mpr ⟨List.mem_append_right _ (List.mem_append_right _ (List.mem_append_right _ (List.mem_append_left _ (List.mem_of_getElem? (i := 228) (l := tables_1_3) rfl)))), rfl⟩
set_option maxRecDepth 100000 in
theorem xcwX6_takePart : Cond.code yX6_takePart cX6_takePart 5 none ∈ xTs := List.mem_filter.mpr ⟨List.mem_append_right _ (List.mem_append_right _ (List.mem_append_right _ (List.mem_append_left _ (List.mem_of_getElem? (i := 233) (l := tables_1_3) rfl)))), rfl⟩
set_option maxRecDepth 100000 in
theorem xcwX6_untell : Cond.code yX6_untell cX6_untell 2 none ∈ xTs := List.mem_filter.mpr ⟨List.mem_append_right _ (List.mem_append_right _ (List.mem_append_right _ (List.mem_append_left _ (List.mem_of_getElem? (i := 31) (l := tables_1_3) rfl)))), rfl⟩
set_option maxRecDepth 100000 in
theorem xcwX6_untellPart : Cond.code yX6_untellPart cX6_untellPart 4 none ∈ xTs := List.mem_filter.mpr ⟨List.mem_append_right _ (List.mem_append_right _ (List.mem_append_right _ (List.mem_append_left _ (List.mem_of_getElem? (i := 35) (l := tables_1_3) rfl)))), rfl⟩
set_option maxRecDepth 100000 in
theorem xcwX7_back : Cond.code yX7_back cX7_back 1 (some .int) ∈ xTs := List.mem_filter.mpr ⟨List.mem_append_right _ (List.mem_append_right _ (List.mem_append_right _ (List.mem_append_right _ (List.mem_append_left _ (List.mem_of_getElem? (i := 108) (l := tables_1_4) rfl))))), rfl⟩
set_option maxRecDepth 100000 in
theorem xcwX7_copy : Cond.code yX7_copy cX7_copy 6 (some .int) ∈ xTs := List.mem_filter.mpr ⟨List.mem_append_right _ (List.mem_append_right _ (List.mem_append_right _ (List.mem_append_right _ (List.mem_append_left _ (List.mem_of_getElem? (i := 136) (l := tables_1_4) rfl))))), rfl⟩
set_option maxRecDepth 100000 in
theorem xcwX7_count : Cond.code yX7_count cX7_count 2 (some .int) ∈ xTs := List.mem_filter.mpr ⟨List.mem_append_right _ (List.mem_append_right _ (List.mem_append_right _ (List.mem_append_right _ (List.mem_append_left _ (List.mem_of_getElem? (i := 112) (l := tables_1_4) rfl))))), rfl⟩
set_option maxRecDepth 100000 in
theorem xcwX7_counted : Cond.code yX7_counted cX7_counted 2 (some .int) ∈ xTs := List.mem_filter.mpr ⟨List.mem_append_right _ (List.mem_append_right _ (List.mem_append_right _ (List.mem_append_left _ (List.mem_of_getElem? (i := 208) (l := tables_1_3) rfl)))), rfl⟩
set_option maxRecDepth 100000 in
theorem xcwX7_differ : Cond.code yX7_differ cX7_differ 4 (some .int) ∈ xTs := List.mem_filter.mpr ⟨List.mem_append_right _ (List.mem_append_right _ (List.mem_append_right _ (List.mem_append_right _ (List.mem_append_left _ (List.mem_of_getElem? (i := 33) (l := tables_1_4) rfl))))), rfl⟩
set_option maxRecDepth 100000 in
theorem xcwX7_empty : Cond.code yX7_empty cX7_empty 3 (some .int) ∈ xTs := List.mem_filter.mpr ⟨List.mem_append_right _ (List.mem_append_right _ (List.mem_append_right _ (List.mem_append_left _ (List.mem_of_getElem? (i := 39) (l := tables_1_3) rfl)))), rfl⟩
set_option maxRecDepth 100000 in
theorem xcwX7_entry : Cond.code yX7_entry cX7_entry 5 (some .long) ∈ xTs := List.mem_filter.mpr ⟨List.mem_append_right _ (List.mem_append_right _ (List.mem_append_right _ (List.mem_append_left _ (List.mem_of_getElem? (i := 63) (l := tables_1_3) rfl)))), rfl⟩
set_option maxRecDepth 100000 in
theorem xcwX7_feed : Cond.code yX7_feed cX7_feed 2 (some .int) ∈ xTs := List.mem_filter.mpr ⟨List.mem_append_right _ (List.mem_append_right _ (List.mem_append_left _ (List.mem_of_getElem? (i := 39) (l := tables_1_2) rfl))), rfl⟩
set_option maxRecDepth 100000 in
theorem xcwX7_film : Cond.code yX7_film cX7_film 7 (some .int) ∈ xTs := List.mem_filter.mpr ⟨List.mem_append_right _ (List.mem_append_right _ (List.mem_append_right _ (List.mem_append_right _ (List.mem_append_left _ (List.mem_of_getElem? (i := 49) (l := tables_1_4) rfl))))), rfl⟩
set_option maxRecDepth 100000 in
theorem xcwX7_find : Cond.code yX7_find cX7_find 6 (some .int) ∈ xTs := List.mem_filter.mpr ⟨List.mem_append_right _ (List.mem_append_right _ (List.mem_append_right _ (List.mem_append_right _ (List.mem_append_left _ (List.mem_of_getElem? (i := 25) (l := tables_1_4) rfl))))), rfl⟩
set_option maxRecDepth 100000 in
theorem xcwX7_forget : Cond.code yX7_forget cX7_forget 2 (some .int) ∈ xTs := List.mem_filter.mpr ⟨List.mem_append_right _ (List.mem_append_right _ (List.mem_append_right _ (List.mem_append_right _ (List.mem_append_left _ (List.mem_of_getElem? (i := 3) (l := tables_1_4) rfl))))), rfl⟩
set_option maxRecDepth 100000 in
theorem xcwX7_hasPart : Cond.code yX7_hasPart cX7_hasPart 3 (some .boolean) ∈ xTs := List.mem_filter.mpr ⟨List.mem_append_right _ (List.mem_append_right _ (List.mem_append_right _ (List.mem_append_left _ (List.mem_of_getElem? (i := 51) (l := tables_1_3) rfl)))), rfl⟩
set_option maxRecDepth 100000 in
theorem xcwX7_head : Cond.code yX7_head cX7_head 3 (some .long) ∈ xTs := List.mem_filter.mpr ⟨List.mem_append_right _ (List.mem_append_right _ (List.mem_append_right _ (List.mem_append_left _ (List.mem_of_getElem? (i := 220) (l := tables_1_3) rfl)))), rfl⟩
set_option maxRecDepth 100000 in
theorem xcwX7_image : Cond.code yX7_image cX7_image 1 (some .int) ∈ xTs := List.mem_filter.mpr ⟨List.mem_append_right _ (List.mem_append_right _ (List.mem_append_right _ (List.mem_append_right _ (List.mem_append_left _ (List.mem_of_getElem? (i := 95) (l := tables_1_4) rfl))))), rfl⟩
set_option maxRecDepth 100000 in
theorem xcwX7_init : Cond.code yX7_init cX7_init 1 none ∈ xTs := List.mem_filter.mpr ⟨List.mem_append_right _ (List.mem_append_left _ (List.mem_of_getElem? (i := 21) (l := tables_1_1) rfl)), rfl⟩
set_option maxRecDepth 100000 in
theorem xcwX7_is : Cond.code yX7_is cX7_is 4 (some .int) ∈ xTs := List.mem_filter.mpr ⟨List.mem_append_right _ (List.mem_append_right _ (List.mem_append_right _ (List.mem_append_left _ (List.mem_of_getElem? (i := 212) (l := tables_1_3) rfl)))), rfl⟩
set_option maxRecDepth 100000 in
theorem xcwX7_isEmpty : Cond.code yX7_isEmpty cX7_isEmpty 2 (some .boolean) ∈ xTs := List.mem_filter.mpr ⟨List.mem_append_right _ (List.mem_append_right _ (List.mem_append_right _ (List.mem_append_left _ (List.mem_of_getElem? (i := 47) (l := tables_1_3) rfl)))), rfl⟩
set_option maxRecDepth 100000 in
theorem xcwX7_isQuestion : Cond.code yX7_isQuestion cX7_isQuestion 1 (some .boolean) ∈ xTs := List.mem_filter.mpr ⟨List.mem_append_right _ (List.mem_append_right _ (List.mem_append_right _ (List.mem_append_right _ (List.mem_append_left _ (List.mem_of_getElem? (i := 71) (l := tables_1_4) rfl))))), rfl⟩
set_option maxRecDepth 100000 in
theorem xcwX7_isSheet : Cond.code yX7_isSheet cX7_isSheet 1 (some .boolean) ∈ xTs := List.mem_filter.mpr ⟨List.mem_append_right _ (List.mem_append_right _ (List.mem_append_right _ (List.mem_append_right _ (List.mem_append_left _ (List.mem_of_getElem? (i := 52) (l := tables_1_4) rfl))))), rfl⟩
set_option maxRecDepth 100000 in
theorem xcwX7_isStream : Cond.code yX7_isStream cX7_isStream 1 (some .boolean) ∈ xTs := List.mem_filter.mpr ⟨List.mem_append_right _ (List.mem_append_right _ (List.mem_append_left _ (List.mem_of_getElem? (i := 50) (l := tables_1_2) rfl))), rfl⟩
set_option maxRecDepth 100000 in
theorem xcwX7_isToldBy : Cond.code yX7_isToldBy cX7_isToldBy 4 (some .boolean) ∈ xTs := List.mem_filter.mpr ⟨List.mem_append_right _ (List.mem_append_right _ (List.mem_append_right _ (List.mem_append_right _ (List.mem_append_left _ (List.mem_of_getElem? (i := 83) (l := tables_1_4) rfl))))), rfl⟩
set_option maxRecDepth 100000 in
theorem xcwX7_item : Cond.code yX7_item cX7_item 3 (some .long) ∈ xTs := List.mem_filter.mpr ⟨List.mem_append_right _ (List.mem_append_right _ (List.mem_append_right _ (List.mem_append_right _ (List.mem_append_left _ (List.mem_of_getElem? (i := 132) (l := tables_1_4) rfl))))), rfl⟩
set_option maxRecDepth 100000 in
theorem xcwX7_lay : Cond.code yX7_lay cX7_lay 8 (some .int) ∈ xTs := List.mem_filter.mpr ⟨List.mem_append_right _ (List.mem_append_right _ (List.mem_append_right _ (List.mem_append_right _ (List.mem_append_left _ (List.mem_of_getElem? (i := 145) (l := tables_1_4) rfl))))), rfl⟩
set_option maxRecDepth 100000 in
theorem xcwX7_limit : Cond.code yX7_limit cX7_limit 3 (some .int) ∈ xTs := List.mem_filter.mpr ⟨List.mem_append_right _ (List.mem_append_right _ (List.mem_append_right _ (List.mem_append_left _ (List.mem_of_getElem? (i := 239) (l := tables_1_3) rfl)))), rfl⟩
set_option maxRecDepth 100000 in
theorem xcwX7_need : Cond.code yX7_need cX7_need 4 (some .int) ∈ xTs := List.mem_filter.mpr ⟨List.mem_append_right _ (List.mem_append_right _ (List.mem_append_right _ (List.mem_append_left _ (List.mem_of_getElem? (i := 224) (l := tables_1_3) rfl)))), rfl⟩
set_option maxRecDepth 100000 in
theorem xcwX7_number : Cond.code yX7_number cX7_number 4 (some .long) ∈ xTs := List.mem_filter.mpr ⟨List.mem_append_right _ (List.mem_append_right _ (List.mem_append_right _ (List.mem_append_left _ (List.mem_of_getElem? (i := 55) (l := tables_1_3) rfl)))), rfl⟩
set_option maxRecDepth 100000 in
theorem xcwX7_part : Cond.code yX7_part cX7_part 5 (some .int) ∈ xTs := List.mem_filter.mpr ⟨List.mem_append_right _ (List.mem_append_right _ (List.mem_append_right _ (List.mem_append_left _ (List.mem_of_getElem? (i := 43) (l := tables_1_3) rfl)))), rfl⟩
set_option maxRecDepth 100000 in
theorem xcwX7_print : Cond.code yX7_print cX7_print 3 (some .int) ∈ xTs := List.mem_filter.mpr ⟨List.mem_append_right _ (List.mem_append_right _ (List.mem_append_right _ (List.mem_append_left _ (List.mem_of_getElem? (i := 79) (l := tables_1_3) rfl)))), rfl⟩
set_option maxRecDepth 100000 in
theorem xcwX7_put : Cond.code yX7_put cX7_put 5 (some .int) ∈ xTs := List.mem_filter.mpr ⟨List.mem_append_right _ (List.mem_append_right _ (List.mem_append_right _ (List.mem_append_right _ (List.mem_append_left _ (List.mem_of_getElem? (i := 124) (l := tables_1_4) rfl))))), rfl⟩
set_option maxRecDepth 100000 in
theorem xcwX7_refusedPlace : Cond.code yX7_refusedPlace cX7_refusedPlace 3 (some .int) ∈ xTs := List.mem_filter.mpr ⟨List.mem_append_right _ (List.mem_append_right _ (List.mem_append_right _ (List.mem_append_left _ (List.mem_of_getElem? (i := 129) (l := tables_1_3) rfl)))), rfl⟩
set_option maxRecDepth 100000 in
theorem xcwX7_refusedRow : Cond.code yX7_refusedRow cX7_refusedRow 4 (some .int) ∈ xTs := List.mem_filter.mpr ⟨List.mem_append_right _ (List.mem_append_right _ (List.mem_append_right _ (List.mem_append_left _ (List.mem_of_getElem? (i := 133) (l := tables_1_3) rfl)))), rfl⟩
set_option maxRecDepth 100000 in
theorem xcwX7_rises : Cond.code yX7_rises cX7_rises 3 (some .int) ∈ xTs := List.mem_filter.mpr ⟨List.mem_append_right _ (List.mem_append_right _ (List.mem_append_right _ (List.mem_append_right _ (List.mem_append_left _ (List.mem_of_getElem? (i := 41) (l := tables_1_4) rfl))))), rfl⟩
set_option maxRecDepth 100000 in
theorem xcwX7_sheet : Cond.code yX7_sheet cX7_sheet 4 (some .int) ∈ xTs := List.mem_filter.mpr ⟨List.mem_append_right _ (List.mem_append_right _ (List.mem_append_right _ (List.mem_append_right _ (List.mem_append_left _ (List.mem_of_getElem? (i := 120) (l := tables_1_4) rfl))))), rfl⟩
set_option maxRecDepth 100000 in
theorem xcwX7_sum : Cond.code yX7_sum cX7_sum 4 (some .long) ∈ xTs := List.mem_filter.mpr ⟨List.mem_append_right _ (List.mem_append_right _ (List.mem_append_right _ (List.mem_append_right _ (List.mem_append_left _ (List.mem_of_getElem? (i := 15) (l := tables_1_4) rfl))))), rfl⟩
set_option maxRecDepth 100000 in
theorem xcwX7_taken : Cond.code yX7_taken cX7_taken 5 (some .int) ∈ xTs := List.mem_filter.mpr ⟨List.mem_append_right _ (List.mem_append_right _ (List.mem_append_right _ (List.mem_append_left _ (List.mem_of_getElem? (i := 74) (l := tables_1_3) rfl)))), rfl⟩
set_option maxRecDepth 100000 in
theorem xcwX7_tellingNumbers : Cond.code yX7_tellingNumbers cX7_tellingNumbers 10 (some .int) ∈ xTs := List.mem_filter.mpr ⟨List.mem_append_right _ (List.mem_append_right _ (List.mem_append_right _ (List.mem_append_right _ (List.mem_append_left _ (List.mem_of_getElem? (i := 91) (l := tables_1_4) rfl))))), rfl⟩
set_option maxRecDepth 100000 in
theorem xcwX7_tellingStreams : Cond.code yX7_tellingStreams cX7_tellingStreams 4 (some .int) ∈ xTs := List.mem_filter.mpr ⟨List.mem_append_right _ (List.mem_append_right _ (List.mem_append_right _ (List.mem_append_right _ (List.mem_append_left _ (List.mem_of_getElem? (i := 79) (l := tables_1_4) rfl))))), rfl⟩
set_option maxRecDepth 100000 in
theorem xcwX7_tells : Cond.code yX7_tells cX7_tells 5 (some .int) ∈ xTs := List.mem_filter.mpr ⟨List.mem_append_right _ (List.mem_append_right _ (List.mem_append_right _ (List.mem_append_right _ (List.mem_append_left _ (List.mem_of_getElem? (i := 68) (l := tables_1_4) rfl))))), rfl⟩
set_option maxRecDepth 100000 in
theorem xcwX7_text : Cond.code yX7_text cX7_text 3 (some .int) ∈ xTs := List.mem_filter.mpr ⟨List.mem_append_right _ (List.mem_append_right _ (List.mem_append_left _ (List.mem_of_getElem? (i := 47) (l := tables_1_2) rfl))), rfl⟩
set_option maxRecDepth 100000 in
theorem xcwX7_there : Cond.code yX7_there cX7_there 4 (some .int) ∈ xTs := List.mem_filter.mpr ⟨List.mem_append_right _ (List.mem_append_right _ (List.mem_append_right _ (List.mem_append_left _ (List.mem_of_getElem? (i := 125) (l := tables_1_3) rfl)))), rfl⟩
set_option maxRecDepth 100000 in
theorem xcwX7_twist : Cond.code yX7_twist cX7_twist 6 (some .int) ∈ xTs := List.mem_filter.mpr ⟨List.mem_append_right _ (List.mem_append_right _ (List.mem_append_right _ (List.mem_append_left _ (List.mem_of_getElem? (i := 67) (l := tables_1_3) rfl)))), rfl⟩
set_option maxRecDepth 100000 in
theorem xcwX8_back : Cond.code yX8_back cX8_back 2 (some .int) ∈ xTs := List.mem_filter.mpr ⟨List.mem_append_right _ (List.mem_append_right _ (List.mem_append_right _ (List.mem_append_right _ (List.mem_append_right _ (List.mem_append_right _ (List.mem_of_getElem? (i := 179) (l := tables_1_6) rfl)))))), rfl⟩
set_option maxRecDepth 100000 in
theorem xcwX8_begins : Cond.code yX8_begins cX8_begins 2 none ∈ xTs := List.mem_filter.mpr ⟨List.mem_append_right _ (List.mem_append_right _ (List.mem_append_right _ (List.mem_append_right _ (List.mem_append_right _ (List.mem_append_right _ (List.mem_of_getElem? (i := 39) (l := tables_1_6) rfl)))))), rfl⟩
set_option maxRecDepth 100000 in
theorem xcwX8_byteAt : Cond.code yX8_byteAt cX8_byteAt 2 (some .int) ∈ xTs := List.mem_filter.mpr ⟨List.mem_append_right _ (List.mem_append_right _ (List.mem_append_right _ (List.mem_append_right _ (List.mem_append_right _ (List.mem_append_left _ (List.mem_of_getElem? (i := 144) (l := tables_1_5) rfl)))))), rfl⟩
set_option maxRecDepth 100000 in
theorem xcwX8_copy : Cond.code yX8_copy cX8_copy 9 (some .int) ∈ xTs := List.mem_filter.mpr ⟨List.mem_append_right _ (List.mem_append_right _ (List.mem_append_right _ (List.mem_append_right _ (List.mem_append_right _ (List.mem_append_right _ (List.mem_of_getElem? (i := 197) (l := tables_1_6) rfl)))))), rfl⟩
set_option maxRecDepth 100000 in
theorem xcwX8_count : Cond.code yX8_count cX8_count 4 (some .int) ∈ xTs := List.mem_filter.mpr ⟨List.mem_append_right _ (List.mem_append_right _ (List.mem_append_right _ (List.mem_append_right _ (List.mem_append_right _ (List.mem_append_right _ (List.mem_of_getElem? (i := 183) (l := tables_1_6) rfl)))))), rfl⟩
set_option maxRecDepth 100000 in
theorem xcwX8_cuts : Cond.code yX8_cuts cX8_cuts 8 (some .int) ∈ xTs := List.mem_filter.mpr ⟨List.mem_append_right _ (List.mem_append_right _ (List.mem_append_right _ (List.mem_append_right _ (List.mem_append_right _ (List.mem_append_right _ (List.mem_of_getElem? (i := 67) (l := tables_1_6) rfl)))))), rfl⟩
set_option maxRecDepth 100000 in
theorem xcwX8_differ : Cond.code yX8_differ cX8_differ 11 (some .int) ∈ xTs := List.mem_filter.mpr ⟨List.mem_append_right _ (List.mem_append_right _ (List.mem_append_right _ (List.mem_append_right _ (List.mem_append_right _ (List.mem_append_right _ (List.mem_of_getElem? (i := 130) (l := tables_1_6) rfl)))))), rfl⟩
set_option maxRecDepth 100000 in
theorem xcwX8_digits : Cond.code yX8_digits cX8_digits 10 none ∈ xTs := List.mem_filter.mpr ⟨List.mem_append_right _ (List.mem_append_right _ (List.mem_append_right _ (List.mem_append_right _ (List.mem_append_right _ (List.mem_append_right _ (List.mem_of_getElem? (i := 29) (l := tables_1_6) rfl)))))), rfl⟩
set_option maxRecDepth 100000 in
theorem xcwX8_empty : Cond.code yX8_empty cX8_empty 3 (some .int) ∈ xTs := List.mem_filter.mpr ⟨List.mem_append_right _ (List.mem_append_right _ (List.mem_append_right _ (List.mem_append_right _ (List.mem_append_right _ (List.mem_append_left _ (List.mem_of_getElem? (i := 200) (l := tables_1_5) rfl)))))), rfl⟩
set_option maxRecDepth 100000 in
theorem xcwX8_entry : Cond.code yX8_entry cX8_entry 4 (some .long) ∈ xTs := List.mem_filter.mpr ⟨List.mem_append_right _ (List.mem_append_right _ (List.mem_append_right _ (List.mem_append_right _ (List.mem_append_right _ (List.mem_append_left _ (List.mem_of_getElem? (i := 226) (l := tables_1_5) rfl)))))), rfl⟩
set_option maxRecDepth 100000 in
theorem xcwX8_fail : Cond.code yX8_fail cX8_fail 1 none ∈ xTs := List.mem_filter.mpr ⟨List.mem_append_right _ (List.mem_append_right _ (List.mem_append_right _ (List.mem_append_right _ (List.mem_append_right _ (List.mem_append_left _ (List.mem_of_getElem? (i := 172) (l := tables_1_5) rfl)))))), rfl⟩
set_option maxRecDepth 100000 in
theorem xcwX8_feed : Cond.code yX8_feed cX8_feed 2 (some .int) ∈ xTs := List.mem_filter.mpr ⟨List.mem_append_right _ (List.mem_append_right _ (List.mem_append_right _ (List.mem_append_right _ (List.mem_append_right _ (List.mem_append_left _ (List.mem_of_getElem? (i := 124) (l := tables_1_5) rfl)))))), rfl⟩
set_option maxRecDepth 100000 in
theorem xcwX8_film : Cond.code yX8_film cX8_film 7 (some .int) ∈ xTs := List.mem_filter.mpr ⟨List.mem_append_right _ (List.mem_append_right _ (List.mem_append_right _ (List.mem_append_right _ (List.mem_append_right _ (List.mem_append_right _ (List.mem_of_getElem? (i := 150) (l := tables_1_6) rfl)))))), rfl⟩
set_option maxRecDepth 100000 in
theorem xcwX8_find : Cond.code yX8_find cX8_find 8 (some .int) ∈ xTs := List.mem_filter.mpr ⟨List.mem_append_right _ (List.mem_append_right _ (List.mem_append_right _ (List.mem_append_right _ (List.mem_append_right _ (List.mem_append_right _ (List.mem_of_getElem? (i := 126) (l := tables_1_6) rfl)))))), rfl⟩
set_option maxRecDepth 100000 in
theorem xcwX8_followed : Cond.code yX8_followed cX8_followed 5 (some .int) ∈ xTs := List.mem_filter.mpr ⟨List.mem_append_right _ (List.mem_append_right _ (List.mem_append_right _ (List.mem_append_right _ (List.mem_append_right _ (List.mem_append_right _ (List.mem_of_getElem? (i := 47) (l := tables_1_6) rfl)))))), rfl⟩
set_option maxRecDepth 100000 in
theorem xcwX8_forget : Cond.code yX8_forget cX8_forget 2 (some .int) ∈ xTs := List.mem_filter.mpr ⟨List.mem_append_right _ (List.mem_append_right _ (List.mem_append_right _ (List.mem_append_right _ (List.mem_append_right _ (List.mem_append_right _ (List.mem_of_getElem? (i := 109) (l := tables_1_6) rfl)))))), rfl⟩
set_option maxRecDepth 100000 in
theorem xcwX8_full : Cond.code yX8_full cX8_full 3 (some .int) ∈ xTs := List.mem_filter.mpr ⟨List.mem_append_right _ (List.mem_append_right _ (List.mem_append_right _ (List.mem_append_right _ (List.mem_append_right _ (List.mem_append_right _ (List.mem_of_getElem? (i := 175) (l := tables_1_6) rfl)))))), rfl⟩
set_option maxRecDepth 100000 in
theorem xcwX8_gap : Cond.code yX8_gap cX8_gap 1 none ∈ xTs := List.mem_filter.mpr ⟨List.mem_append_right _ (List.mem_append_right _ (List.mem_append_right _ (List.mem_append_right _ (List.mem_append_right _ (List.mem_append_right _ (List.mem_of_getElem? (i := 21) (l := tables_1_6) rfl)))))), rfl⟩
set_option maxRecDepth 100000 in
theorem xcwX8_groupOf : Cond.code yX8_groupOf cX8_groupOf 1 (some .int) ∈ xTs := List.mem_filter.mpr ⟨List.mem_append_right _ (List.mem_append_right _ (List.mem_append_right _ (List.mem_append_right _ (List.mem_append_right _ (List.mem_append_right _ (List.mem_of_getElem? (i := 1) (l := tables_1_6) rfl)))))), rfl⟩
set_option maxRecDepth 100000 in
theorem xcwX8_head : Cond.code yX8_head cX8_head 3 (some .long) ∈ xTs := List.mem_filter.mpr ⟨List.mem_append_right _ (List.mem_append_right _ (List.mem_append_right _ (List.mem_append_right _ (List.mem_append_right _ (List.mem_append_right _ (List.mem_of_getElem? (i := 99) (l := tables_1_6) rfl)))))), rfl⟩
set_option maxRecDepth 100000 in
theorem xcwX8_headAsked : Cond.code yX8_headAsked cX8_headAsked 6 (some .int) ∈ xTs := List.mem_filter.mpr ⟨List.mem_append_right _ (List.mem_append_right _ (List.mem_append_right _ (List.mem_append_right _ (List.mem_append_right _ (List.mem_append_right _ (List.mem_of_getElem? (i := 59) (l := tables_1_6) rfl)))))), rfl⟩
set_option maxRecDepth 100000 in
theorem xcwX8_image : Cond.code yX8_image cX8_image 2 (some .int) ∈ xTs := List.mem_filter.mpr ⟨List.mem_append_right _ (List.mem_append_right _ (List.mem_append_right _ (List.mem_append_right _ (List.mem_append_right _ (List.mem_append_right _ (List.mem_of_getElem? (i := 171) (l := tables_1_6) rfl)))))), rfl⟩
set_option maxRecDepth 100000 in
theorem xcwX8_in : Cond.code yX8_in cX8_in 6 (some .boolean) ∈ xTs := List.mem_filter.mpr ⟨List.mem_append_right _ (List.mem_append_right _ (List.mem_append_right _ (List.mem_append_right _ (List.mem_append_right _ (List.mem_append_left _ (List.mem_of_getElem? (i := 128) (l := tables_1_5) rfl)))))), rfl⟩
set_option maxRecDepth 100000 in
theorem xcwX8_init : Cond.code yX8_init cX8_init 1 none ∈ xTs := List.mem_filter.mpr ⟨List.mem_append_right _ (List.mem_append_right _ (List.mem_append_right _ (List.mem_append_right _ (List.mem_append_left _ (List.mem_of_getElem? (i := 152) (l := tables_1_4) rfl))))), rfl⟩
set_option maxRecDepth 100000 in
theorem xcwX8_is : Cond.code yX8_is cX8_is 4 (some .int) ∈ xTs := List.mem_filter.mpr ⟨List.mem_append_right _ (List.mem_append_right _ (List.mem_append_right _ (List.mem_append_right _ (List.mem_append_right _ (List.mem_append_right _ (List.mem_of_getElem? (i := 91) (l := tables_1_6) rfl)))))), rfl⟩
set_option maxRecDepth 100000 in
theorem xcwX8_isFull : Cond.code yX8_isFull cX8_isFull 2 (some .boolean) ∈ xTs := List.mem_filter.mpr ⟨List.mem_append_right _ (List.mem_append_right _ (List.mem_append_right _ (List.mem_append_right _ (List.mem_append_right _ (List.mem_append_right _ (List.mem_of_getElem? (i := 121) (l := tables_1_6) rfl)))))), rfl⟩
set_option maxRecDepth 100000 in
theorem xcwX8_isLetter : Cond.code yX8_isLetter cX8_isLetter 3 (some .boolean) ∈ xTs := List.mem_filter.mpr ⟨List.mem_append_right _ (List.mem_append_right _ (List.mem_append_right _ (List.mem_append_right _ (List.mem_append_right _ (List.mem_append_left _ (List.mem_of_getElem? (i := 159) (l := tables_1_5) rfl)))))), rfl⟩
set_option maxRecDepth 100000 in
theorem xcwX8_isNumbered : Cond.code yX8_isNumbered cX8_isNumbered 1 (some .boolean) ∈ xTs := List.mem_filter.mpr ⟨List.mem_append_right _ (List.mem_append_right _ (List.mem_append_right _ (List.mem_append_right _ (List.mem_append_right _ (List.mem_append_left _ (List.mem_of_getElem? (i := 220) (l := tables_1_5) rfl)))))), rfl⟩
set_option maxRecDepth 100000 in
theorem xcwX8_isPart : Cond.code yX8_isPart cX8_isPart 3 (some .boolean) ∈ xTs := List.mem_filter.mpr ⟨List.mem_append_right _ (List.mem_append_right _ (List.mem_append_right _ (List.mem_append_right _ (List.mem_append_right _ (List.mem_append_left _ (List.mem_of_getElem? (i := 209) (l := tables_1_5) rfl)))))), rfl⟩
set_option maxRecDepth 100000 in
theorem xcwX8_isSheet : Cond.code yX8_isSheet cX8_isSheet 1 (some .boolean) ∈ xTs := List.mem_filter.mpr ⟨List.mem_append_right _ (List.mem_append_right _ (List.mem_append_right _ (List.mem_append_right _ (List.mem_append_right _ (List.mem_append_right _ (List.mem_of_getElem? (i := 153) (l := tables_1_6) rfl)))))), rfl⟩
set_option maxRecDepth 100000 in
theorem xcwX8_isSign : Cond.code yX8_isSign cX8_isSign 2 (some .boolean) ∈ xTs := List.mem_filter.mpr ⟨List.mem_append_right _ (List.mem_append_right _ (List.mem_append_right _ (List.mem_append_right _ (List.mem_append_right _ (List.mem_append_left _ (List.mem_of_getElem? (i := 180) (l := tables_1_5) rfl)))))), rfl⟩
set_option maxRecDepth 100000 in
theorem xcwX8_isSignByte : Cond.code yX8_isSignByte cX8_isSignByte 1 (some .boolean) ∈ xTs := List.mem_filter.mpr ⟨List.mem_append_right _ (List.mem_append_right _ (List.mem_append_right _ (List.mem_append_right _ (List.mem_append_right _ (List.mem_append_left _ (List.mem_of_getElem? (i := 164) (l := tables_1_5) rfl)))))), rfl⟩
set_option maxRecDepth 100000 in
theorem xcwX8_isSo : Cond.code yX8_isSo cX8_isSo 6 (some .boolean) ∈ xTs := List.mem_filter.mpr ⟨List.mem_append_right _ (List.mem_append_right _ (List.mem_append_right _ (List.mem_append_right _ (List.mem_append_right _ (List.mem_append_right _ (List.mem_of_getElem? (i := 167) (l := tables_1_6) rfl)))))), rfl⟩
set_option maxRecDepth 100000 in
theorem xcwX8_isStream : Cond.code yX8_isStream cX8_isStream 1 (some .boolean) ∈ xTs := List.mem_filter.mpr ⟨List.mem_append_right _ (List.mem_append_right _ (List.mem_append_right _ (List.mem_append_right _ (List.mem_append_right _ (List.mem_append_left _ (List.mem_of_getElem? (i := 135) (l := tables_1_5) rfl)))))), rfl⟩
set_option maxRecDepth 100000 in
theorem xcwX8_isWord : Cond.code yX8_isWord cX8_isWord 6 (some .boolean) ∈ xTs := List.mem_filter.mpr ⟨List.mem_append_right _ (List.mem_append_right _ (List.mem_append_right _ (List.mem_append_right _ (List.mem_append_right _ (List.mem_append_left _ (List.mem_of_getElem? (i := 155) (l := tables_1_5) rfl)))))), rfl⟩
set_option maxRecDepth 100000 in
theorem xcwX8_item : Cond.code yX8_item cX8_item 3 (some .long) ∈ xTs := List.mem_filter.mpr ⟨List.mem_append_right _ (List.mem_append_right _ (List.mem_append_right _ (List.mem_append_right _ (List.mem_append_right _ (List.mem_append_right _ (List.mem_of_getElem? (i := 193) (l := tables_1_6) rfl)))))), rfl⟩
set_option maxRecDepth 100000 in
theorem xcwX8_joined : Cond.code yX8_joined cX8_joined 6 (some .int) ∈ xTs := List.mem_filter.mpr ⟨List.mem_append_right _ (List.mem_append_right _ (List.mem_append_right _ (List.mem_append_right _ (List.mem_append_right _ (List.mem_append_right _ (List.mem_of_getElem? (i := 75) (l := tables_1_6) rfl)))))), rfl⟩
set_option maxRecDepth 100000 in
theorem xcwX8_keeps : Cond.code yX8_keeps cX8_keeps 8 (some .int) ∈ xTs := List.mem_filter.mpr ⟨List.mem_append_right _ (List.mem_append_right _ (List.mem_append_right _ (List.mem_append_right _ (List.mem_append_right _ (List.mem_append_right _ (List.mem_of_getElem? (i := 55) (l := tables_1_6) rfl)))))), rfl⟩
set_option maxRecDepth 100000 in
theorem xcwX8_kindOf : Cond.code yX8_kindOf cX8_kindOf 1 (some .int) ∈ xTs := List.mem_filter.mpr ⟨List.mem_append_right _ (List.mem_append_right _ (List.mem_append_right _ (List.mem_append_right _ (List.mem_append_right _ (List.mem_append_left _ (List.mem_of_getElem? (i := 150) (l := tables_1_5) rfl)))))), rfl⟩
set_option maxRecDepth 100000 in
theorem xcwX8_kindWord : Cond.code yX8_kindWord cX8_kindWord 3 none ∈ xTs := List.mem_filter.mpr ⟨List.mem_append_right _ (List.mem_append_right _ (List.mem_append_right _ (List.mem_append_right _ (List.mem_append_right _ (List.mem_append_right _ (List.mem_of_getElem? (i := 13) (l := tables_1_6) rfl)))))), rfl⟩
set_option maxRecDepth 100000 in
theorem xcwX8_lay : Cond.code yX8_lay cX8_lay 8 (some .int) ∈ xTs := List.mem_filter.mpr ⟨List.mem_append_right _ (List.mem_append_right _ (List.mem_append_right _ (List.mem_append_right _ (List.mem_append_right _ (List.mem_append_right _ (List.mem_of_getElem? (i := 201) (l := tables_1_6) rfl)))))), rfl⟩
set_option maxRecDepth 100000 in
theorem xcwX8_laysAside : Cond.code yX8_laysAside cX8_laysAside 2 none ∈ xTs := List.mem_filter.mpr ⟨List.mem_append_right _ (List.mem_append_right _ (List.mem_append_right _ (List.mem_append_right _ (List.mem_append_right _ (List.mem_append_right _ (List.mem_of_getElem? (i := 142) (l := tables_1_6) rfl)))))), rfl⟩
set_option maxRecDepth 100000 in
theorem xcwX8_laysBack : Cond.code yX8_laysBack cX8_laysBack 2 none ∈ xTs := List.mem_filter.mpr ⟨List.mem_append_right _ (List.mem_append_right _ (List.mem_append_right _ (List.mem_append_right _ (List.mem_append_right _ (List.mem_append_right _ (List.mem_of_getElem? (i := 146) (l := tables_1_6) rfl)))))), rfl⟩
set_option maxRecDepth 100000 in
theorem xcwX8_limit : Cond.code yX8_limit cX8_limit 3 (some .int) ∈ xTs := List.mem_filter.mpr ⟨List.mem_append_right _ (List.mem_append_right _ (List.mem_append_right _ (List.mem_append_right _ (List.mem_append_right _ (List.mem_append_right _ (List.mem_of_getElem? (i := 104) (l := tables_1_6) rfl)))))), rfl⟩
set_option maxRecDepth 100000 in
theorem xcwX8_list : Cond.code yX8_list cX8_list 2 none ∈ xTs := List.mem_filter.mpr ⟨List.mem_append_right _ (List.mem_append_right _ (List.mem_append_right _ (List.mem_append_right _ (List.mem_append_right _ (List.mem_append_left _ (List.mem_of_getElem? (i := 192) (l := tables_1_5) rfl)))))), rfl⟩
set_option maxRecDepth 100000 in
theorem xcwX8_merges : Cond.code yX8_merges cX8_merges 12 (some .int) ∈ xTs := List.mem_filter.mpr ⟨List.mem_append_right _ (List.mem_append_right _ (List.mem_append_right _ (List.mem_append_right _ (List.mem_append_right _ (List.mem_append_right _ (List.mem_of_getElem? (i := 87) (l := tables_1_6) rfl)))))), rfl⟩
set_option maxRecDepth 100000 in
theorem xcwX8_need : Cond.code yX8_need cX8_need 4 (some .int) ∈ xTs := List.mem_filter.mpr ⟨List.mem_append_right _ (List.mem_append_right _ (List.mem_append_right _ (List.mem_append_right _ (List.mem_append_right _ (List.mem_append_right _ (List.mem_of_getElem? (i := 138) (l := tables_1_6) rfl)))))), rfl⟩
set_option maxRecDepth 100000 in
theorem xcwX8_next : Cond.code yX8_next cX8_next 3 none ∈ xTs := List.mem_filter.mpr ⟨List.mem_append_right _ (List.mem_append_right _ (List.mem_append_right _ (List.mem_append_right _ (List.mem_append_right _ (List.mem_append_left _ (List.mem_of_getElem? (i := 140) (l := tables_1_5) rfl)))))), rfl⟩
set_option maxRecDepth 100000 in
theorem xcwX8_num : Cond.code yX8_num cX8_num 2 (some .long) ∈ xTs := List.mem_filter.mpr ⟨List.mem_append_right _ (List.mem_append_right _ (List.mem_append_right _ (List.mem_append_right _ (List.mem_append_right _ (List.mem_append_left _ (List.mem_of_getElem? (i := 184) (l := tables_1_5) rfl)))))), rfl⟩
set_option maxRecDepth 100000 in
theorem xcwX8_number : Cond.code yX8_number cX8_number 3 (some .long) ∈ xTs := List.mem_filter.mpr ⟨List.mem_append_right _ (List.mem_append_right _ (List.mem_append_right _ (List.mem_append_right _ (List.mem_append_right _ (List.mem_append_left _ (List.mem_of_getElem? (i := 217) (l := tables_1_5) rfl)))))), rfl⟩
set_option maxRecDepth 100000 in
theorem xcwX8_op : Cond.code yX8_op cX8_op 4 (some .int) ∈ xTs := List.mem_filter.mpr ⟨List.mem_append_right _ (List.mem_append_right _ (List.mem_append_right _ (List.mem_append_right _ (List.mem_append_right _ (List.mem_append_left _ (List.mem_of_getElem? (i := 176) (l := tables_1_5) rfl)))))), rfl⟩
set_option maxRecDepth 100000 in
theorem xcwX8_other : Cond.code yX8_other cX8_other 2 (some .int) ∈ xTs := List.mem_filter.mpr ⟨List.mem_append_right _ (List.mem_append_right _ (List.mem_append_right _ (List.mem_append_right _ (List.mem_append_right _ (List.mem_append_right _ (List.mem_of_getElem? (i := 71) (l := tables_1_6) rfl)))))), rfl⟩
set_option maxRecDepth 100000 in
theorem xcwX8_outcome : Cond.code yX8_outcome cX8_outcome 4 (some .int) ∈ xTs := List.mem_filter.mpr ⟨List.mem_append_right _ (List.mem_append_right _ (List.mem_append_right _ (List.mem_append_right _ (List.mem_append_right _ (List.mem_append_right _ (List.mem_of_getElem? (i := 95) (l := tables_1_6) rfl)))))), rfl⟩
set_option maxRecDepth 100000 in
theorem xcwX8_part : Cond.code yX8_part cX8_part 5 (some .int) ∈ xTs := List.mem_filter.mpr ⟨List.mem_append_right _ (List.mem_append_right _ (List.mem_append_right _ (List.mem_append_right _ (List.mem_append_right _ (List.mem_append_left _ (List.mem_of_getElem? (i := 204) (l := tables_1_5) rfl)))))), rfl⟩
set_option maxRecDepth 100000 in
theorem xcwX8_passes : Cond.code yX8_passes cX8_passes 6 (some .int) ∈ xTs := List.mem_filter.mpr ⟨List.mem_append_right _ (List.mem_append_right _ (List.mem_append_right _ (List.mem_append_right _ (List.mem_append_right _ (List.mem_append_right _ (List.mem_of_getElem? (i := 79) (l := tables_1_6) rfl)))))), rfl⟩
set_option maxRecDepth 100000 in
theorem xcwX8_place : Cond.code yX8_place cX8_place 5 (some .int) ∈ xTs := List.mem_filter.mpr ⟨List.mem_append_right _ (List.mem_append_right _ (List.mem_append_right _ (List.mem_append_right _ (List.mem_append_right _ (List.mem_append_right _ (List.mem_of_getElem? (i := 43) (l := tables_1_6) rfl)))))), rfl⟩
set_option maxRecDepth 100000 in
theorem xcwX8_plain : Cond.code yX8_plain cX8_plain 5 (some .long) ∈ xTs := List.mem_filter.mpr ⟨List.mem_append_right _ (List.mem_append_right _ (List.mem_append_right _ (List.mem_append_right _ (List.mem_append_right _ (List.mem_append_left _ (List.mem_of_getElem? (i := 188) (l := tables_1_5) rfl)))))), rfl⟩
set_option maxRecDepth 100000 in
theorem xcwX8_print : Cond.code yX8_print cX8_print 3 (some .int) ∈ xTs := List.mem_filter.mpr ⟨List.mem_append_right _ (List.mem_append_right _ (List.mem_append_right _ (List.mem_append_right _ (List.mem_append_right _ (List.mem_append_right _ (List.mem_of_getElem? (i := 5) (l := tables_1_6) rfl)))))), rfl⟩
set_option maxRecDepth 100000 in
theorem xcwX8_prints : Cond.code yX8_prints cX8_prints 5 none ∈ xTs := List.mem_filter.mpr ⟨List.mem_append_right _ (List.mem_append_right _ (List.mem_append_right _ (List.mem_append_right _ (List.mem_append_right _ (List.mem_append_right _ (List.mem_of_getElem? (i := 9) (l := tables_1_6) rfl)))))), rfl⟩
set_option maxRecDepth 100000 in
theorem xcwX8_put : Cond.code yX8_put cX8_put 5 (some .int) ∈ xTs := List.mem_filter.mpr ⟨List.mem_append_right _ (List.mem_append_right _ (List.mem_append_right _ (List.mem_append_right _ (List.mem_append_right _ (List.mem_append_right _ (List.mem_of_getElem? (i := 189) (l := tables_1_6) rfl)))))), rfl⟩
set_option maxRecDepth 100000 in
theorem xcwX8_puts : Cond.code yX8_puts cX8_puts 2 none ∈ xTs := List.mem_filter.mpr ⟨List.mem_append_right _ (List.mem_append_right _ (List.mem_append_right _ (List.mem_append_right _ (List.mem_append_right _ (List.mem_append_right _ (List.mem_of_getElem? (i := 25) (l := tables_1_6) rfl)))))), rfl⟩
set_option maxRecDepth 100000 in
theorem xcwX8_rises : Cond.code yX8_rises cX8_rises 7 (some .int) ∈ xTs := List.mem_filter.mpr ⟨List.mem_append_right _ (List.mem_append_right _ (List.mem_append_right _ (List.mem_append_right _ (List.mem_append_right _ (List.mem_append_right _ (List.mem_of_getElem? (i := 134) (l := tables_1_6) rfl)))))), rfl⟩
set_option maxRecDepth 100000 in
theorem xcwX8_row : Cond.code yX8_row cX8_row 3 none ∈ xTs := List.mem_filter.mpr ⟨List.mem_append_right _ (List.mem_append_right _ (List.mem_append_right _ (List.mem_append_right _ (List.mem_append_right _ (List.mem_append_left _ (List.mem_of_getElem? (i := 168) (l := tables_1_5) rfl)))))), rfl⟩
set_option maxRecDepth 100000 in
theorem xcwX8_sheet : Cond.code yX8_sheet cX8_sheet 5 (some .int) ∈ xTs := List.mem_filter.mpr ⟨List.mem_append_right _ (List.mem_append_right _ (List.mem_append_right _ (List.mem_append_right _ (List.mem_append_right _ (List.mem_append_right _ (List.mem_of_getElem? (i := 158) (l := tables_1_6) rfl)))))), rfl⟩
set_option maxRecDepth 100000 in
theorem xcwX8_sieved : Cond.code yX8_sieved cX8_sieved 7 (some .int) ∈ xTs := List.mem_filter.mpr ⟨List.mem_append_right _ (List.mem_append_right _ (List.mem_append_right _ (List.mem_append_right _ (List.mem_append_right _ (List.mem_append_right _ (List.mem_of_getElem? (i := 83) (l := tables_1_6) rfl)))))), rfl⟩
set_option maxRecDepth 100000 in
theorem xcwX8_sum : Cond.code yX8_sum cX8_sum 7 (some .long) ∈ xTs := List.mem_filter.mpr ⟨List.mem_append_right _ (List.mem_append_right _ (List.mem_append_right _ (List.mem_append_right _ (List.mem_append_right _ (List.mem_append_right _ (List.mem_of_getElem? (i := 117) (l := tables_1_6) rfl)))))), rfl⟩
set_option maxRecDepth 100000 in
theorem xcwX8_taken : Cond.code yX8_taken cX8_taken 4 (some .int) ∈ xTs := List.mem_filter.mpr ⟨List.mem_append_right _ (List.mem_append_right _ (List.mem_append_right _ (List.mem_append_right _ (List.mem_append_right _ (List.mem_append_left _ (List.mem_of_getElem? (i := 237) (l := tables_1_5) rfl)))))), rfl⟩
set_option maxRecDepth 100000 in
theorem xcwX8_tells : Cond.code yX8_tells cX8_tells 13 (some .int) ∈ xTs := List.mem_filter.mpr ⟨List.mem_append_right _ (List.mem_append_right _ (List.mem_append_right _ (List.mem_append_right _ (List.mem_append_right _ (List.mem_append_right _ (List.mem_of_getElem? (i := 163) (l := tables_1_6) rfl)))))), rfl⟩
set_option maxRecDepth 100000 in
theorem xcwX8_tellsHead : Cond.code yX8_tellsHead cX8_tellsHead 8 (some .int) ∈ xTs := List.mem_filter.mpr ⟨List.mem_append_right _ (List.mem_append_right _ (List.mem_append_right _ (List.mem_append_right _ (List.mem_append_right _ (List.mem_append_right _ (List.mem_of_getElem? (i := 63) (l := tables_1_6) rfl)))))), rfl⟩
set_option maxRecDepth 100000 in
theorem xcwX8_tellsPlace : Cond.code yX8_tellsPlace cX8_tellsPlace 7 (some .int) ∈ xTs := List.mem_filter.mpr ⟨List.mem_append_right _ (List.mem_append_right _ (List.mem_append_right _ (List.mem_append_right _ (List.mem_append_right _ (List.mem_append_right _ (List.mem_of_getElem? (i := 51) (l := tables_1_6) rfl)))))), rfl⟩
set_option maxRecDepth 100000 in
theorem xcwX8_text : Cond.code yX8_text cX8_text 5 (some .int) ∈ xTs := List.mem_filter.mpr ⟨List.mem_append_right _ (List.mem_append_right _ (List.mem_append_right _ (List.mem_append_right _ (List.mem_append_right _ (List.mem_append_left _ (List.mem_of_getElem? (i := 132) (l := tables_1_5) rfl)))))), rfl⟩
set_option maxRecDepth 100000 in
theorem xcwX8_there : Cond.code yX8_there cX8_there 4 (some .int) ∈ xTs := List.mem_filter.mpr ⟨List.mem_append_right _ (List.mem_append_right _ (List.mem_append_right _ (List.mem_append_right _ (List.mem_append_right _ (List.mem_append_right _ (List.mem_of_getElem? (i := 34) (l := tables_1_6) rfl)))))), rfl⟩
set_option maxRecDepth 100000 in
theorem xcwX8_toldAll : Cond.code yX8_toldAll cX8_toldAll 5 (some .int) ∈ xTs := List.mem_filter.mpr ⟨List.mem_append_right _ (List.mem_append_right _ (List.mem_append_right _ (List.mem_append_right _ (List.mem_append_right _ (List.mem_append_right _ (List.mem_of_getElem? (i := 113) (l := tables_1_6) rfl)))))), rfl⟩
set_option maxRecDepth 100000 in
theorem xcwX8_toldHeads : Cond.code yX8_toldHeads cX8_toldHeads 4 (some .int) ∈ xTs := List.mem_filter.mpr ⟨List.mem_append_right _ (List.mem_append_right _ (List.mem_append_right _ (List.mem_append_right _ (List.mem_append_right _ (List.mem_append_left _ (List.mem_of_getElem? (i := 213) (l := tables_1_5) rfl)))))), rfl⟩
set_option maxRecDepth 100000 in
theorem xcwX8_twist : Cond.code yX8_twist cX8_twist 5 (some .int) ∈ xTs := List.mem_filter.mpr ⟨List.mem_append_right _ (List.mem_append_right _ (List.mem_append_right _ (List.mem_append_right _ (List.mem_append_right _ (List.mem_append_left _ (List.mem_of_getElem? (i := 230) (l := tables_1_5) rfl)))))), rfl⟩
set_option maxRecDepth 100000 in
theorem xcwX8_untells : Cond.code yX8_untells cX8_untells 3 none ∈ xTs := List.mem_filter.mpr ⟨List.mem_append_right _ (List.mem_append_right _ (List.mem_append_right _ (List.mem_append_right _ (List.mem_append_right _ (List.mem_append_left _ (List.mem_of_getElem? (i := 196) (l := tables_1_5) rfl)))))), rfl⟩
set_option maxRecDepth 100000 in
theorem xcwX8_word : Cond.code yX8_word cX8_word 6 none ∈ xTs := List.mem_filter.mpr ⟨List.mem_append_right _ (List.mem_append_right _ (List.mem_append_right _ (List.mem_append_right _ (List.mem_append_right _ (List.mem_append_right _ (List.mem_of_getElem? (i := 17) (l := tables_1_6) rfl)))))), rfl⟩
theorem xcw_0 : ∀ e ∈ xall_0, e.1.1 ≠ yL_law → Cond.code e.1.1 e.1.2.1 e.1.2.2.1 e.1.2.2.2 ∈ xTs := List.forall_mem_cons.mpr ⟨fun z => absurd rfl z, List.forall_mem_cons.mpr ⟨fun z => xcwX0_allows, List.forall_mem_cons.mpr ⟨fun z => xcwX0_hasNumber, List.forall_mem_cons.mpr ⟨fun z => xcwX0_rows, List.forall_mem_cons.mpr ⟨fun z => xcwX0_shape, List.forall_mem_cons.mpr ⟨fun z => xcwX0_word, List.forall_mem_cons.mpr ⟨fun z => xcwX1_init, List.forall_mem_cons.mpr ⟨fun z => xcwX1_writeBlank, List.forall_mem_cons.mpr ⟨fun z => xcwX1_writeByte, List.forall_mem_cons.mpr ⟨fun z => xcwX1_writeField, List.forall_mem_cons.mpr ⟨fun z => xcwX1_writeNum, List.forall_mem_cons.mpr ⟨fun z => xcwX1_writeNums, List.forall_mem_cons.mpr ⟨fun z => xcwX1_writePart, List.forall_mem_cons.mpr ⟨fun z => xcwX1_writeSign, List.forall_mem_cons.mpr ⟨fun z => xcwX1_writeStream, List.forall_mem_cons.mpr ⟨fun z => xcwX1_writeWord, List.forall_mem_cons.mpr ⟨fun z => xcwX2_addByte, List.forall_mem_cons.mpr ⟨fun z => xcwX2_init, List.forall_mem_cons.mpr ⟨fun z => xcwX2_isSign, List.forall_mem_cons.mpr ⟨fun z => xcwX2_isWord, List.forall_mem_cons.mpr ⟨fun z => xcwX2_kindOfWord, List.forall_mem_cons.mpr ⟨fun z => xcwX2_meaningOf, List.forall_mem_cons.mpr ⟨fun z => xcwX2_miss, List.forall_mem_cons.mpr ⟨fun z => xcwX2_readField, List.forall_mem_cons.mpr ⟨fun z => xcwX2_readNum, List.forall_mem_cons.mpr ⟨fun z => xcwX2_readNumber, List.forall_mem_cons.mpr ⟨fun z => xcwX2_readNums, List.forall_mem_cons.mpr ⟨fun z => xcwX2_readPart, List.forall_mem_cons.mpr ⟨fun z => xcwX2_readSign, List.forall_mem_cons.mpr ⟨fun z => xcwX2_readTape, List.forall_mem_cons.mpr ⟨fun z => xcwX2_sortOf, List.forall_mem_cons.mpr ⟨fun z => xcwX2_splitTape, fun _ h => absurd h List.not_mem_nil⟩⟩⟩⟩⟩⟩⟩⟩⟩⟩⟩⟩⟩⟩⟩⟩⟩⟩⟩⟩⟩⟩⟩⟩⟩⟩⟩⟩⟩⟩⟩⟩
theorem xcw_1 : ∀ e ∈ xall_1, e.1.1 ≠ yL_law → Cond.code e.1.1 e.1.2.1 e.1.2.2.1 e.1.2.2.2 ∈ xTs := List.forall_mem_cons.mpr ⟨fun z => xcwX3_init, List.forall_mem_cons.mpr ⟨fun z => xcwX3_isMissing, List.forall_mem_cons.mpr ⟨fun z => xcwX3_move, List.forall_mem_cons.mpr ⟨fun z => xcwX3_read, List.forall_mem_cons.mpr ⟨fun z => xcwX3_renew, List.forall_mem_cons.mpr ⟨fun z => xcwX3_spans, List.forall_mem_cons.mpr ⟨fun z => xcwX3_write, List.forall_mem_cons.mpr ⟨fun z => xcwX4_addUp, List.forall_mem_cons.mpr ⟨fun z => xcwX4_askHead, List.forall_mem_cons.mpr ⟨fun z => xcwX4_askPlace, List.forall_mem_cons.mpr ⟨fun z => xcwX4_begin, List.forall_mem_cons.mpr ⟨fun z => xcwX4_beginsRun, List.forall_mem_cons.mpr ⟨fun z => xcwX4_behindNames, List.forall_mem_cons.mpr ⟨fun z => xcwX4_combine, List.forall_mem_cons.mpr ⟨fun z => xcwX4_firstUnlike, List.forall_mem_cons.mpr ⟨fun z => xcwX4_gather, List.forall_mem_cons.mpr ⟨fun z => xcwX4_init, List.forall_mem_cons.mpr ⟨fun z => xcwX4_isThere, List.forall_mem_cons.mpr ⟨fun z => xcwX4_mergePlace, List.forall_mem_cons.mpr ⟨fun z => xcwX4_outcome, List.forall_mem_cons.mpr ⟨fun z => xcwX4_passes, List.forall_mem_cons.mpr ⟨fun z => xcwX4_passesOwnHeads, List.forall_mem_cons.mpr ⟨fun z => xcwX4_placeOf, List.forall_mem_cons.mpr ⟨fun z => xcwX4_rising, List.forall_mem_cons.mpr ⟨fun z => xcwX4_seekPlace, List.forall_mem_cons.mpr ⟨fun z => xcwX4_seeks, List.forall_mem_cons.mpr ⟨fun z => xcwX4_tellHead, List.forall_mem_cons.mpr ⟨fun z => xcwX4_tellNumber, List.forall_mem_cons.mpr ⟨fun z => xcwX4_tellPlace, List.forall_mem_cons.mpr ⟨fun z => xcwX5_allParts, List.forall_mem_cons.mpr ⟨fun z => xcwX5_clearPart, List.forall_mem_cons.mpr ⟨fun z => xcwX5_close, fun _ h => absurd h List.not_mem_nil⟩⟩⟩⟩⟩⟩⟩⟩⟩⟩⟩⟩⟩⟩⟩⟩⟩⟩⟩⟩⟩⟩⟩⟩⟩⟩⟩⟩⟩⟩⟩⟩
theorem xcw_2 : ∀ e ∈ xall_2, e.1.1 ≠ yL_law → Cond.code e.1.1 e.1.2.1 e.1.2.2.1 e.1.2.2.2 ∈ xTs := List.forall_mem_cons.mpr ⟨fun z => xcwX5_filledStreams, List.forall_mem_cons.mpr ⟨fun z => xcwX5_firstRow, List.forall_mem_cons.mpr ⟨fun z => xcwX5_init, List.forall_mem_cons.mpr ⟨fun z => xcwX5_secondRow, List.forall_mem_cons.mpr ⟨fun z => xcwX5_takeAll, List.forall_mem_cons.mpr ⟨fun z => xcwX5_takeParts, List.forall_mem_cons.mpr ⟨fun z => xcwX5_takeStream, List.forall_mem_cons.mpr ⟨fun z => xcwX6_allHeads, List.forall_mem_cons.mpr ⟨fun z => xcwX6_allPlaces, List.forall_mem_cons.mpr ⟨fun z => xcwX6_init, List.forall_mem_cons.mpr ⟨fun z => xcwX6_meet, List.forall_mem_cons.mpr ⟨fun z => xcwX6_takeAll, List.forall_mem_cons.mpr ⟨fun z => xcwX6_takePart, List.forall_mem_cons.mpr ⟨fun z => xcwX6_untell, List.forall_mem_cons.mpr ⟨fun z => xcwX6_untellPart, List.forall_mem_cons.mpr ⟨fun z => xcwX7_back, List.forall_mem_cons.mpr ⟨fun z => xcwX7_copy, List.forall_mem_cons.mpr ⟨fun z => xcwX7_count, List.forall_mem_cons.mpr ⟨fun z => xcwX7_counted, List.forall_mem_cons.mpr ⟨fun z => xcwX7_differ, List.forall_mem_cons.mpr ⟨fun z => xcwX7_empty, List.forall_mem_cons.mpr ⟨fun z => xcwX7_entry, List.forall_mem_cons.mpr ⟨fun z => xcwX7_feed, List.forall_mem_cons.mpr ⟨fun z => xcwX7_film, List.forall_mem_cons.mpr ⟨fun z => xcwX7_find, List.forall_mem_cons.mpr ⟨fun z => xcwX7_forget, List.forall_mem_cons.mpr ⟨fun z => xcwX7_hasPart, List.forall_mem_cons.mpr ⟨fun z => xcwX7_head, List.forall_mem_cons.mpr ⟨fun z => xcwX7_image, List.forall_mem_cons.mpr ⟨fun z => xcwX7_init, List.forall_mem_cons.mpr ⟨fun z => xcwX7_is, List.forall_mem_cons.mpr ⟨fun z => xcwX7_isEmpty, fun _ h => absurd h List.not_mem_nil⟩⟩⟩⟩⟩⟩⟩⟩⟩⟩⟩⟩⟩⟩⟩⟩⟩⟩⟩⟩⟩⟩⟩⟩⟩⟩⟩⟩⟩⟩⟩⟩
theorem xcw_3 : ∀ e ∈ xall_3, e.1.1 ≠ yL_law → Cond.code e.1.1 e.1.2.1 e.1.2.2.1 e.1.2.2.2 ∈ xTs := List.forall_mem_cons.mpr ⟨fun z => xcwX7_isQuestion, List.forall_mem_cons.mpr ⟨fun z => xcwX7_isSheet, List.forall_mem_cons.mpr ⟨fun z => xcwX7_isStream, List.forall_mem_cons.mpr ⟨fun z => xcwX7_isToldBy, List.forall_mem_cons.mpr ⟨fun z => xcwX7_item, List.forall_mem_cons.mpr ⟨fun z => xcwX7_lay, List.forall_mem_cons.mpr ⟨fun z => xcwX7_limit, List.forall_mem_cons.mpr ⟨fun z => xcwX7_need, List.forall_mem_cons.mpr ⟨fun z => xcwX7_number, List.forall_mem_cons.mpr ⟨fun z => xcwX7_part, List.forall_mem_cons.mpr ⟨fun z => xcwX7_print, List.forall_mem_cons.mpr ⟨fun z => xcwX7_put, List.forall_mem_cons.mpr ⟨fun z => xcwX7_refusedPlace, List.forall_mem_cons.mpr ⟨fun z => xcwX7_refusedRow, List.forall_mem_cons.mpr ⟨fun z => xcwX7_rises, List.forall_mem_cons.mpr ⟨fun z => xcwX7_sheet, List.forall_mem_cons.mpr ⟨fun z => xcwX7_sum, List.forall_mem_cons.mpr ⟨fun z => xcwX7_taken, List.forall_mem_cons.mpr ⟨fun z => xcwX7_tellingNumbers, List.forall_mem_cons.mpr ⟨fun z => xcwX7_tellingStreams, List.forall_mem_cons.mpr ⟨fun z => xcwX7_tells, List.forall_mem_cons.mpr ⟨fun z => xcwX7_text, List.forall_mem_cons.mpr ⟨fun z => xcwX7_there, List.forall_mem_cons.mpr ⟨fun z => xcwX7_twist, List.forall_mem_cons.mpr ⟨fun z => xcwX8_back, List.forall_mem_cons.mpr ⟨fun z => xcwX8_begins, List.forall_mem_cons.mpr ⟨fun z => xcwX8_byteAt, List.forall_mem_cons.mpr ⟨fun z => xcwX8_copy, List.forall_mem_cons.mpr ⟨fun z => xcwX8_count, List.forall_mem_cons.mpr ⟨fun z => xcwX8_cuts, List.forall_mem_cons.mpr ⟨fun z => xcwX8_differ, List.forall_mem_cons.mpr ⟨fun z => xcwX8_digits, fun _ h => absurd h List.not_mem_nil⟩⟩⟩⟩⟩⟩⟩⟩⟩⟩⟩⟩⟩⟩⟩⟩⟩⟩⟩⟩⟩⟩⟩⟩⟩⟩⟩⟩⟩⟩⟩⟩
theorem xcw_4 : ∀ e ∈ xall_4, e.1.1 ≠ yL_law → Cond.code e.1.1 e.1.2.1 e.1.2.2.1 e.1.2.2.2 ∈ xTs := List.forall_mem_cons.mpr ⟨fun z => xcwX8_empty, List.forall_mem_cons.mpr ⟨fun z => xcwX8_entry, List.forall_mem_cons.mpr ⟨fun z => xcwX8_fail, List.forall_mem_cons.mpr ⟨fun z => xcwX8_feed, List.forall_mem_cons.mpr ⟨fun z => xcwX8_film, List.forall_mem_cons.mpr ⟨fun z => xcwX8_find, List.forall_mem_cons.mpr ⟨fun z => xcwX8_followed, List.forall_mem_cons.mpr ⟨fun z => xcwX8_forget, List.forall_mem_cons.mpr ⟨fun z => xcwX8_full, List.forall_mem_cons.mpr ⟨fun z => xcwX8_gap, List.forall_mem_cons.mpr ⟨fun z => xcwX8_groupOf, List.forall_mem_cons.mpr ⟨fun z => xcwX8_head, List.forall_mem_cons.mpr ⟨fun z => xcwX8_headAsked, List.forall_mem_cons.mpr ⟨fun z => xcwX8_image, List.forall_mem_cons.mpr ⟨fun z => xcwX8_in, List.forall_mem_cons.mpr ⟨fun z => xcwX8_init, List.forall_mem_cons.mpr ⟨fun z => xcwX8_is, List.forall_mem_cons.mpr ⟨fun z => xcwX8_isFull, List.forall_mem_cons.mpr ⟨fun z => xcwX8_isLetter, List.forall_mem_cons.mpr ⟨fun z => xcwX8_isNumbered, List.forall_mem_cons.mpr ⟨fun z => xcwX8_isPart, List.forall_mem_cons.mpr ⟨fun z => xcwX8_isSheet, List.forall_mem_cons.mpr ⟨fun z => xcwX8_isSign, List.forall_mem_cons.mpr ⟨fun z => xcwX8_isSignByte, List.forall_mem_cons.mpr ⟨fun z => xcwX8_isSo, List.forall_mem_cons.mpr ⟨fun z => xcwX8_isStream, List.forall_mem_cons.mpr ⟨fun z => xcwX8_isWord, List.forall_mem_cons.mpr ⟨fun z => xcwX8_item, List.forall_mem_cons.mpr ⟨fun z => xcwX8_joined, List.forall_mem_cons.mpr ⟨fun z => xcwX8_keeps, List.forall_mem_cons.mpr ⟨fun z => xcwX8_kindOf, List.forall_mem_cons.mpr ⟨fun z => xcwX8_kindWord, fun _ h => absurd h List.not_mem_nil⟩⟩⟩⟩⟩⟩⟩⟩⟩⟩⟩⟩⟩⟩⟩⟩⟩⟩⟩⟩⟩⟩⟩⟩⟩⟩⟩⟩⟩⟩⟩⟩
theorem xcw_5 : ∀ e ∈ xall_5, e.1.1 ≠ yL_law → Cond.code e.1.1 e.1.2.1 e.1.2.2.1 e.1.2.2.2 ∈ xTs := List.forall_mem_cons.mpr ⟨fun z => xcwX8_lay, List.forall_mem_cons.mpr ⟨fun z => xcwX8_laysAside, List.forall_mem_cons.mpr ⟨fun z => xcwX8_laysBack, List.forall_mem_cons.mpr ⟨fun z => xcwX8_limit, List.forall_mem_cons.mpr ⟨fun z => xcwX8_list, List.forall_mem_cons.mpr ⟨fun z => xcwX8_merges, List.forall_mem_cons.mpr ⟨fun z => xcwX8_need, List.forall_mem_cons.mpr ⟨fun z => xcwX8_next, List.forall_mem_cons.mpr ⟨fun z => xcwX8_num, List.forall_mem_cons.mpr ⟨fun z => xcwX8_number, List.forall_mem_cons.mpr ⟨fun z => xcwX8_op, List.forall_mem_cons.mpr ⟨fun z => xcwX8_other, List.forall_mem_cons.mpr ⟨fun z => xcwX8_outcome, List.forall_mem_cons.mpr ⟨fun z => xcwX8_part, List.forall_mem_cons.mpr ⟨fun z => xcwX8_passes, List.forall_mem_cons.mpr ⟨fun z => xcwX8_place, List.forall_mem_cons.mpr ⟨fun z => xcwX8_plain, List.forall_mem_cons.mpr ⟨fun z => xcwX8_print, List.forall_mem_cons.mpr ⟨fun z => xcwX8_prints, List.forall_mem_cons.mpr ⟨fun z => xcwX8_put, List.forall_mem_cons.mpr ⟨fun z => xcwX8_puts, List.forall_mem_cons.mpr ⟨fun z => xcwX8_rises, List.forall_mem_cons.mpr ⟨fun z => xcwX8_row, List.forall_mem_cons.mpr ⟨fun z => xcwX8_sheet, List.forall_mem_cons.mpr ⟨fun z => xcwX8_sieved, List.forall_mem_cons.mpr ⟨fun z => xcwX8_sum, List.forall_mem_cons.mpr ⟨fun z => xcwX8_taken, List.forall_mem_cons.mpr ⟨fun z => xcwX8_tells, List.forall_mem_cons.mpr ⟨fun z => xcwX8_tellsHead, List.forall_mem_cons.mpr ⟨fun z => xcwX8_tellsPlace, List.forall_mem_cons.mpr ⟨fun z => xcwX8_text, List.forall_mem_cons.mpr ⟨fun z => xcwX8_there, fun _ h => absurd h List.not_mem_nil⟩⟩⟩⟩⟩⟩⟩⟩⟩⟩⟩⟩⟩⟩⟩⟩⟩⟩⟩⟩⟩⟩⟩⟩⟩⟩⟩⟩⟩⟩⟩⟩
theorem xcw_6 : ∀ e ∈ xall_6, e.1.1 ≠ yL_law → Cond.code e.1.1 e.1.2.1 e.1.2.2.1 e.1.2.2.2 ∈ xTs := List.forall_mem_cons.mpr ⟨fun z => xcwX8_toldAll, List.forall_mem_cons.mpr ⟨fun z => xcwX8_toldHeads, List.forall_mem_cons.mpr ⟨fun z => xcwX8_twist, List.forall_mem_cons.mpr ⟨fun z => xcwX8_untells, List.forall_mem_cons.mpr ⟨fun z => xcwX8_word, fun _ h => absurd h List.not_mem_nil⟩⟩⟩⟩⟩
def xckM (own : String) (q : Nat × Nat × Nat × Nat × Nat × Nat) : Bool := match q with
  | (k, 6, _, _, _, pl) => xis pl (.methodLink own k Lib.objectInit)
  | (k, 7, _, _, _, pl) => xis pl (.methodLink own k arraycopyName)
  | (k, 8, _, _, _, pl) => xis pl (.methodLink own k Lib.Math.max.name)
  | (k, 0, N, na, ci, pl) => match xent N, xpl N, vwCl[ci]? with
    | some e, some p, some (C, _, _) => (decide (N < 197) && decide (0 < N) && !decide (e.1.1 = yL_law)) && decide (0 < na) && decide ((parseMethodDescriptor e.1.1.desc).map (fun d => d.parameters.length) = some (na - 1)) && decide (C = e.1.1.cls) && xis pl (.methodLink own k e.1.1) && xis p.2.2.1 (.instanceMethod e.1.1) && xis p.2.2.2 (.selects e.1.1.cls e.1.1 e.1.1)
    | _, _, _ => false
  | (k, 1, N, na, _, pl) => match xent N, xpl N with
    | some e, some p => (decide (N < 197) && decide (0 < N) && !decide (e.1.1 = yL_law)) && decide ((parseMethodDescriptor e.1.1.desc).map (fun d => d.parameters.length) = some na) && xis pl (.methodLink own k e.1.1) && xis p.2.2.1 (.static e.1.1)
    | _, _ => false
  | (k, 4, N, na, _, pl) => match xent N, xpl N with
    | some e, some p => (decide (N < 197) && decide (0 < N) && !decide (e.1.1 = yL_law)) && decide (0 < na) && decide ((parseMethodDescriptor e.1.1.desc).map (fun d => d.parameters.length) = some (na - 1)) && xis pl (.methodLink own k e.1.1) && decide (e.1.1.name = "<init>") && xis p.2.2.1 (.instanceMethod e.1.1) && decide (e.1.2.2.2 = none)
    | _, _ => false
  | (k, 5, N, na, _, pl) => match xent N, xpl N with
    | some e, some p => (decide (N < 197) && decide (0 < N) && !decide (e.1.1 = yL_law)) && decide (0 < na) && decide ((parseMethodDescriptor e.1.1.desc).map (fun d => d.parameters.length) = some (na - 1)) && decide ((own, k, e.1.1, "LateRows") ∈ xnest) && decide (e.1.1.name = "<init>") && xis p.2.2.1 (.instanceMethod e.1.1) && decide (e.1.2.2.2 = none)
    | _, _ => false
  | _ => false
def xckMl (l : List (Nat × Nat × Nat × Nat × Nat × Nat)) (own : String) : Bool := l.all (xckM own)
theorem xckM_all : (List.zip xlM xcn).all (fun q => xckMl q.1 q.2) = true := by decide +kernel
theorem xcode_in {N : Nat} {e : xEn} (he : xent N = some e) (h : N < 197) (h0 : 0 < N) (hy : ¬ e.1.1 = yL_law) : plainName (xMet xg N).1.cls = true ∧ Cond.code (xMet xg N).1 (xMet xg N).2.1 (xMet xg N).2.2.1 (xMet xg N).2.2.2 ∈ xTs ∧ Cond.initialized (xMet xg N).1.cls ∈ xTs ∧ ((xMet xg N).1.cls ≠ "java/lang/invoke/MethodHandle" ∧ (xMet xg N).1.cls ≠ "java/lang/invoke/VarHandle") ∧ (xMet xg N).2.2.1 ≤ 40 := by
  have h1 := xcode_all h0 h
  unfold xcode at h1
  rw [he] at h1
  rw [xent_met he]
  split at h1
  · rename_i e' q z1 z2
    cases z1
    simp only [Bool.and_eq_true, decide_eq_true_eq, Bool.not_eq_true', decide_eq_false_iff_not] at h1
    obtain ⟨⟨⟨⟨a1, a3⟩, a4⟩, a5⟩, a6⟩ := h1
    exact ⟨a1, xent_all (P := fun e => e.1.1 ≠ yL_law → Cond.code e.1.1 e.1.2.1 e.1.2.2.1 e.1.2.2.2 ∈ xTs) xcw_0 xcw_1 xcw_2 xcw_3 xcw_4 xcw_5 xcw_6 he hy, xis_in a3, ⟨a4, a5⟩, a6⟩
  · cases h1
set_option maxHeartbeats 4000000 in
theorem xg_okm : xOKm xg vwCl xTs xnest := by
  intro M k kind N na ci h
  have h : (match xlk xlM M k with | some (kind, N, na, ci, _) => some (kind, N, na, ci) | none => none) = some (kind, N, na, ci) := h
  split at h
  · rename_i kind' N' na' ci' pl hq
    cases h
    obtain ⟨e0, r, he0, hr, hm⟩ := xlk_in hq
    have h1 := List.all_eq_true.mp (xzip (f := xckMl) xckM_all hr (xent_cn he0)) _ hm
    unfold xckM at h1
    split at h1
    · rename_i z; cases z
      exact ⟨xis_in h1, xis_in (i := 107) (by decide +kernel), xis_in (i := 108) (by decide +kernel)⟩
    · rename_i z; cases z
      exact ⟨xis_in h1, xis_in (i := 591) (by decide +kernel), xis_in (i := 590) (by decide +kernel), xis_in (i := 100) (by decide +kernel)⟩
    · rename_i z; cases z
      exact ⟨xis_in h1, xis_in (i := 416) (by decide +kernel), xis_in (i := 95) (by decide +kernel), xis_in (i := 417) (by decide +kernel)⟩
    · rename_i z; cases z
      split at h1
      · rename_i e p C T NN he hp hc
        simp only [Bool.and_eq_true, decide_eq_true_eq, Bool.not_eq_true', decide_eq_false_iff_not] at h1
        obtain ⟨⟨⟨⟨⟨⟨⟨⟨a1, a1b⟩, a1c⟩, a2⟩, a3⟩, a4⟩, a5⟩, a6⟩, a7⟩ := h1
        refine ⟨xcode_in he a1 a1b a1c, ?_⟩
        rw [xent_met he]
        exact ⟨a3, a2, ⟨T, NN, by rw [← a4]; exact hc⟩, xis_in a5, xis_in a6, xis_in a7⟩
      · cases h1
    · rename_i z; cases z
      split at h1
      · rename_i e p he hp
        simp only [Bool.and_eq_true, decide_eq_true_eq, Bool.not_eq_true', decide_eq_false_iff_not] at h1
        obtain ⟨⟨⟨⟨⟨a1, a1b⟩, a1c⟩, a3⟩, a5⟩, a6⟩ := h1
        refine ⟨xcode_in he a1 a1b a1c, ?_⟩
        rw [xent_met he]
        exact ⟨a3, xis_in a5, xis_in a6⟩
      · cases h1
    · rename_i z; cases z
      split at h1
      · rename_i e p he hp
        simp only [Bool.and_eq_true, decide_eq_true_eq, Bool.not_eq_true', decide_eq_false_iff_not] at h1
        obtain ⟨⟨⟨⟨⟨⟨⟨⟨a1, a1b⟩, a1c⟩, a2⟩, a3⟩, a5⟩, a6⟩, a7⟩, a8⟩ := h1
        refine ⟨xcode_in he a1 a1b a1c, ?_⟩
        rw [xent_met he]
        exact ⟨a3, a2, xis_in a5, a6, xis_in a7, a8⟩
      · cases h1
    · rename_i z; cases z
      split at h1
      · rename_i e p he hp
        simp only [Bool.and_eq_true, decide_eq_true_eq, Bool.not_eq_true', decide_eq_false_iff_not] at h1
        obtain ⟨⟨⟨⟨⟨⟨⟨⟨a1, a1b⟩, a1c⟩, a2⟩, a3⟩, a5⟩, a6⟩, a7⟩, a8⟩ := h1
        refine ⟨xcode_in he a1 a1b a1c, ?_⟩
        rw [xent_met he]
        exact ⟨a3, a2, ⟨"LateRows", a5⟩, a6, xis_in a7, a8⟩
      · cases h1
    · cases h1
  · cases h
end
section
section XRU
variable {G : xG} {sc : xS} {d M pc : Nat} {L : xL} {st : List Value} {h : xH} {Q : xR → Prop}
/-- rules for a walk: the next place stands ahead -/
theorem wA (pc' : Nat) {i : Instr} (hi : xIns G M pc = some i) (hs : xsort i = 1) {st' : List Value} (h1 : xs1 i st = some st') (hp : pc + 1 = pc') (k : xT G sc d M pc' L st' h Q) : xT G sc d M pc L st h Q := by subst hp; exact tS1 hi hs h1 k
theorem wD (pc' : Nat) {i : Instr} (hi : xIns G M pc = some i) (hs : xsort i = 2) {st' : List Value} (h1 : xs1d i st = some st') (hp : pc + 1 = pc') (k : xT G sc d M pc' L st' h Q) : xT G sc d M pc L st h Q := by subst hp; exact tS1d hi hs h1 k
theorem wK (pc' : Nat) {n : Int} (v : Int32) (hi : xIns G M pc = some (.iconst n)) (hv : Int32.ofInt n = v) (hp : pc + 1 = pc') (k : xT G sc d M pc' L (.int v :: st) h Q) : xT G sc d M pc L st h Q := by subst hv; exact tS2 hi rfl rfl hp k
theorem wKb (pc' : Nat) {n : Int} (v : Int32) (hi : xIns G M pc = some (.bipush n)) (hv : (Int8.ofInt n).toInt32 = v) (hp : pc + 2 = pc') (k : xT G sc d M pc' L (.int v :: st) h Q) : xT G sc d M pc L st h Q := by subst hv; exact tS2 hi rfl rfl hp k
theorem wKs (pc' : Nat) {n : Int} (v : Int32) (hi : xIns G M pc = some (.sipush n)) (hv : (Int16.ofInt n).toInt32 = v) (hp : pc + 3 = pc') (k : xT G sc d M pc' L (.int v :: st) h Q) : xT G sc d M pc L st h Q := by subst hv; exact tS2 hi rfl rfl hp k
theorem wKl (pc' : Nat) {n : Fin 2} (v : Int64) (hi : xIns G M pc = some (.lconst n)) (hv : Int64.ofNat (n : Nat) = v) (hp : pc + 1 = pc') (k : xT G sc d M pc' L (.long v :: st) h Q) : xT G sc d M pc L st h Q := by subst hv; exact tS2 hi rfl rfl hp k
theorem wKc (pc' : Nat) {n : Nat} (v : Int32) (hi : xIns G M pc = some (.ldc n)) (hv : xCon G M n = some (.int v)) (hp : pc + 2 = pc') (k : xT G sc d M pc' L (.int v :: st) h Q) : xT G sc d M pc L st h Q := tS2 hi rfl (by simp only [xs2, hv]) hp k
theorem wKd (pc' : Nat) {n : Nat} (v : Int64) (hi : xIns G M pc = some (.ldc2_w n)) (hv : xCon G M n = some (.long v)) (hp : pc + 3 = pc') (k : xT G sc d M pc' L (.long v :: st) h Q) : xT G sc d M pc L st h Q := tS2 hi rfl (by simp only [xs2, hv]) hp k
theorem wLi (pc' : Nat) {n : Nat} {x : Int32} (hi : xIns G M pc = some (.iload n)) (hv : L.lookup n = some (.int x)) (hp : pc + 2 = pc') (k : xT G sc d M pc' L (.int x :: st) h Q) : xT G sc d M pc L st h Q := tS2 hi rfl (by simp only [xs2, hv]) hp k
theorem wLin (pc' : Nat) {n : Fin 4} {x : Int32} (hi : xIns G M pc = some (.iload_n n)) (hv : L.lookup n.val = some (.int x)) (hp : pc + 1 = pc') (k : xT G sc d M pc' L (.int x :: st) h Q) : xT G sc d M pc L st h Q := tS2 hi rfl (by simp only [xs2, hv]) hp k
theorem wLl (pc' : Nat) {n : Nat} {x : Int64} (hi : xIns G M pc = some (.lload n)) (hv : L.lookup n = some (.long x)) (hp : pc + 2 = pc') (k : xT G sc d M pc' L (.long x :: st) h Q) : xT G sc d M pc L st h Q := tS2 hi rfl (by simp only [xs2, hv]) hp k
theorem wLln (pc' : Nat) {n : Fin 4} {x : Int64} (hi : xIns G M pc = some (.lload_n n)) (hv : L.lookup n.val = some (.long x)) (hp : pc + 1 = pc') (k : xT G sc d M pc' L (.long x :: st) h Q) : xT G sc d M pc L st h Q := tS2 hi rfl (by simp only [xs2, hv]) hp k
theorem wLa (pc' : Nat) {n : Nat} {x : Nat} (hi : xIns G M pc = some (.aload n)) (hv : L.lookup n = some (.ref x)) (hp : pc + 2 = pc') (k : xT G sc d M pc' L (.ref x :: st) h Q) : xT G sc d M pc L st h Q := tS2 hi rfl (by simp only [xs2, hv]) hp k
theorem wLan (pc' : Nat) {n : Fin 4} {x : Nat} (hi : xIns G M pc = some (.aload_n n)) (hv : L.lookup n.val = some (.ref x)) (hp : pc + 1 = pc') (k : xT G sc d M pc' L (.ref x :: st) h Q) : xT G sc d M pc L st h Q := tS2 hi rfl (by simp only [xs2, hv]) hp k
theorem wLsn (pc' : Nat) {n : Fin 4} {x : Nat} (hi : xIns G M pc = some (.aload_n n)) (hv : L.lookup n.val = some (.retAddr x)) (hp : pc + 1 = pc') (k : xT G sc d M pc' L (.retAddr x :: st) h Q) : xT G sc d M pc L st h Q := tS2 hi rfl (by simp only [xs2, hv]) hp k
theorem wSi (pc' : Nat) (L' : xL) {n nL : Nat} {rt : Option FieldType} {x : Int32} (hi : xIns G M pc = some (.istore n)) (hm : (xMet G M).2.2 = (nL, rt)) (hn : n < nL) (hl : xst1 L n (.int x) = L') (hp : pc + 2 = pc') (k : xT G sc d M pc' L' st h Q) : xT G sc d M pc L (.int x :: st) h Q := by
  subst hl; exact tS2 hi rfl (by simp only [xs2, hm, hn, if_true]) hp k
theorem wSin (pc' : Nat) (L' : xL) {n : Fin 4} {nL : Nat} {rt : Option FieldType} {x : Int32} (hi : xIns G M pc = some (.istore_n n)) (hm : (xMet G M).2.2 = (nL, rt)) (hn : n.val < nL) (hl : xst1 L n.val (.int x) = L') (hp : pc + 1 = pc') (k : xT G sc d M pc' L' st h Q) : xT G sc d M pc L (.int x :: st) h Q := by
  subst hl; exact tS2 hi rfl (by simp only [xs2, hm, hn, if_true]) hp k
theorem wSl (pc' : Nat) (L' : xL) {n nL : Nat} {rt : Option FieldType} {x : Int64} (hi : xIns G M pc = some (.lstore n)) (hm : (xMet G M).2.2 = (nL, rt)) (hn : n + 1 < nL) (hl : xst2 L n (.long x) = L') (hp : pc + 2 = pc') (k : xT G sc d M pc' L' st h Q) : xT G sc d M pc L (.long x :: st) h Q := by
  subst hl; exact tS2 hi rfl (by simp only [xs2, hm, hn, if_true]) hp k
theorem wSln (pc' : Nat) (L' : xL) {n : Fin 4} {nL : Nat} {rt : Option FieldType} {x : Int64} (hi : xIns G M pc = some (.lstore_n n)) (hm : (xMet G M).2.2 = (nL, rt)) (hn : n.val + 1 < nL) (hl : xst2 L n.val (.long x) = L') (hp : pc + 1 = pc') (k : xT G sc d M pc' L' st h Q) : xT G sc d M pc L (.long x :: st) h Q := by
  subst hl; exact tS2 hi rfl (by simp only [xs2, hm, hn, if_true]) hp k
theorem wSan (pc' : Nat) (L' : xL) {n : Fin 4} {nL : Nat} {rt : Option FieldType} {x : Nat} (hi : xIns G M pc = some (.astore_n n)) (hm : (xMet G M).2.2 = (nL, rt)) (hn : n.val < nL) (hl : xst1 L n.val (.ref x) = L') (hp : pc + 1 = pc') (k : xT G sc d M pc' L' st h Q) : xT G sc d M pc L (.ref x :: st) h Q := by
  subst hl; exact tS2 hi rfl (by simp only [xs2, hm, hn, if_true]) hp k
theorem wInc (pc' : Nat) (L' : xL) {n nL : Nat} {c : Int} {rt : Option FieldType} {x : Int32} (v : Int32) (hi : xIns G M pc = some (.iinc n c)) (hm : (xMet G M).2.2 = (nL, rt)) (hn : n < nL) (hv : L.lookup n = some (.int x)) (hx : x + Int32.ofInt c = v) (hl : xst1 L n (.int v) = L') (hp : pc + 3 = pc') (k : xT G sc d M pc' L' st h Q) : xT G sc d M pc L st h Q := by
  subst hl; subst hx; exact tS2 hi rfl (by simp only [xs2, hv, hm, hn, if_true]) hp k
theorem wGo (pc' : Nat) {off : Int} (hi : xIns G M pc = some (.goto off)) (hj : xjmp pc off = some pc') (k : xT G sc d M pc' L st h Q) : xT G sc d M pc L st h Q := tGo hi hj k
theorem wZ (t pc' : Nat) {q : ClassFile.Cond} {off : Int} {x : Int32} (hi : xIns G M pc = some (.ifCond q off)) (hj : xjmp pc off = some t) (hp : pc + 3 = pc') (kt : xcond q x 0 = true → xT G sc d M t L st h Q) (kf : xcond q x 0 = false → xT G sc d M pc' L st h Q) : xT G sc d M pc L (.int x :: st) h Q := by subst hp; exact tIf0 hi hj kt kf
theorem wZT (t : Nat) {q : ClassFile.Cond} {off : Int} {x : Int32} (hi : xIns G M pc = some (.ifCond q off)) (hj : xjmp pc off = some t) (hc : xcond q x 0 = true) (k : xT G sc d M t L st h Q) : xT G sc d M pc L (.int x :: st) h Q := tIf0T hi hj hc k
theorem wZF (t pc' : Nat) {q : ClassFile.Cond} {off : Int} {x : Int32} (hi : xIns G M pc = some (.ifCond q off)) (hj : xjmp pc off = some t) (hc : xcond q x 0 = false) (hp : pc + 3 = pc') (k : xT G sc d M pc' L st h Q) : xT G sc d M pc L (.int x :: st) h Q := by subst hp; exact tIf0F hi hj hc k
theorem wC (t pc' : Nat) {q : ClassFile.Cond} {off : Int} {x y : Int32} (hi : xIns G M pc = some (.if_icmp q off)) (hj : xjmp pc off = some t) (hp : pc + 3 = pc') (kt : xcond q x y = true → xT G sc d M t L st h Q) (kf : xcond q x y = false → xT G sc d M pc' L st h Q) : xT G sc d M pc L (.int y :: .int x :: st) h Q := by subst hp; exact tIf2 hi hj kt kf
theorem wCT (t : Nat) {q : ClassFile.Cond} {off : Int} {x y : Int32} (hi : xIns G M pc = some (.if_icmp q off)) (hj : xjmp pc off = some t) (hc : xcond q x y = true) (k : xT G sc d M t L st h Q) : xT G sc d M pc L (.int y :: .int x :: st) h Q := tIf2T hi hj hc k
theorem wCF (t pc' : Nat) {q : ClassFile.Cond} {off : Int} {x y : Int32} (hi : xIns G M pc = some (.if_icmp q off)) (hj : xjmp pc off = some t) (hc : xcond q x y = false) (hp : pc + 3 = pc') (k : xT G sc d M pc' L st h Q) : xT G sc d M pc L (.int y :: .int x :: st) h Q := by subst hp; exact tIf2F hi hj hc k
theorem wGet (pc' : Nat) {k0 a ci j : Nat} {fs : List Value} (v : Value) (hi : xIns G M pc = some (.getfield k0)) (hf : xFld G M k0 = some (ci, j)) (hc : h[a]? = some (.inr (ci, fs))) (hv : fs[j]? = some v) (hp : pc + 3 = pc') (k : xT G sc d M pc' L (v :: st) h Q) : xT G sc d M pc L (.ref a :: st) h Q := tS4 hi rfl (by simp only [xs4, hf, hc, if_true, hv]) hp k
theorem wPut (pc' : Nat) {k0 a ci j : Nat} {ty : FieldType} {fs : List Value} {v : Value} (hi : xIns G M pc = some (.putfield k0)) (hf : xPut G M k0 = some (ci, j, ty)) (hc : h[a]? = some (.inr (ci, fs))) (hl : j < fs.length) (hn : narrow ty v = v) (hfit : fits ty v = true) (hp : pc + 3 = pc') (k : xT G sc d M pc' L st (h.set a (.inr (ci, fs.set j v))) Q) : xT G sc d M pc L (v :: .ref a :: st) h Q := tS4 hi rfl (by simp only [xs4, hf, hc]; rw [if_pos ⟨trivial, hl, hn, hfit⟩]) hp k
theorem wIal (pc' : Nat) {a n : Nat} {j : Int32} {f : Nat → Int32} (hi : xIns G M pc = some .iaload) (hc : h[a]? = some (.inl (.int, n, .inl f))) (hj : ¬ (j < 0 ∨ n ≤ j.toNatClampNeg)) (hp : pc + 1 = pc') (k : xT G sc d M pc' L (.int (f j.toNatClampNeg) :: st) h Q) : xT G sc d M pc L (.int j :: .ref a :: st) h Q := tS4 hi rfl (by simp only [xs4, hc, hj, if_false]) hp k
theorem wLal (pc' : Nat) {a n : Nat} {j : Int32} {f : Nat → Int64} (hi : xIns G M pc = some .laload) (hc : h[a]? = some (.inl (.long, n, .inr (.inl f)))) (hj : ¬ (j < 0 ∨ n ≤ j.toNatClampNeg)) (hp : pc + 1 = pc') (k : xT G sc d M pc' L (.long (f j.toNatClampNeg) :: st) h Q) : xT G sc d M pc L (.int j :: .ref a :: st) h Q := tS4 hi rfl (by simp only [xs4, hc, hj, if_false]) hp k
theorem wZal (pc' : Nat) {a n : Nat} {j : Int32} {f : Nat → Int32} (hi : xIns G M pc = some .baload) (hc : h[a]? = some (.inl (.boolean, n, .inl f))) (hj : ¬ (j < 0 ∨ n ≤ j.toNatClampNeg)) (hp : pc + 1 = pc') (k : xT G sc d M pc' L (.int (f j.toNatClampNeg) :: st) h Q) : xT G sc d M pc L (.int j :: .ref a :: st) h Q := tS4 hi rfl (by simp only [xs4, hc, hj, if_false]) hp k
theorem wSal (pc' : Nat) {x0 : Nat} {j : Int32} (hi : xIns G M pc = some .iaload) (hj : ¬ (j < 0 ∨ sc.1 ≤ j.toNatClampNeg)) (hp : pc + 1 = pc') (k : xT G sc d M pc' L (.int (sc.2 j.toNatClampNeg) :: st) h Q) : xT G sc d M pc L (.int j :: .retAddr x0 :: st) h Q := tS4 hi rfl (by simp only [xs4, hj, if_false]) hp k
theorem wIas (pc' : Nat) {a n : Nat} {j x : Int32} {f : Nat → Int32} (hi : xIns G M pc = some .iastore) (hc : h[a]? = some (.inl (.int, n, .inl f))) (hj : ¬ (j < 0 ∨ n ≤ j.toNatClampNeg)) (hp : pc + 1 = pc') (k : xT G sc d M pc' L st (h.set a (.inl (.int, n, .inl (upd f j.toNatClampNeg x)))) Q) : xT G sc d M pc L (.int x :: .int j :: .ref a :: st) h Q := tS4 hi rfl (by simp only [xs4, hc, hj, if_false]) hp k
theorem wLas (pc' : Nat) {a n : Nat} {j : Int32} {x : Int64} {f : Nat → Int64} (hi : xIns G M pc = some .lastore) (hc : h[a]? = some (.inl (.long, n, .inr (.inl f)))) (hj : ¬ (j < 0 ∨ n ≤ j.toNatClampNeg)) (hp : pc + 1 = pc') (k : xT G sc d M pc' L st (h.set a (.inl (.long, n, .inr (.inl (vp_updL f j.toNatClampNeg x))))) Q) : xT G sc d M pc L (.long x :: .int j :: .ref a :: st) h Q := tS4 hi rfl (by simp only [xs4, hc, hj, if_false]) hp k
theorem wZas (pc' : Nat) {a n : Nat} {j x : Int32} {f : Nat → Int32} (hi : xIns G M pc = some .bastore) (hc : h[a]? = some (.inl (.boolean, n, .inl f))) (hj : ¬ (j < 0 ∨ n ≤ j.toNatClampNeg)) (hp : pc + 1 = pc') (k : xT G sc d M pc' L st (h.set a (.inl (.boolean, n, .inl (upd f j.toNatClampNeg (x &&& 1))))) Q) : xT G sc d M pc L (.int x :: .int j :: .ref a :: st) h Q := tS4 hi rfl (by simp only [xs4, hc, hj, if_false]) hp k
theorem wAln (pc' : Nat) {a : Nat} {ty : FieldType} {x : vp_A} {n : Int32} (hi : xIns G M pc = some .arraylength) (hc : h[a]? = some (.inl (ty, x))) (ht : xprim ty = true) (hn : Int32.ofNat x.1 = n) (hp : pc + 1 = pc') (k : xT G sc d M pc' L (.int n :: st) h Q) : xT G sc d M pc L (.ref a :: st) h Q := by subst hn; exact tS4 hi rfl (by simp only [xs4, hc, ht, if_true]) hp k
theorem wSln0 (pc' : Nat) {x0 : Nat} (hi : xIns G M pc = some .arraylength) (hp : pc + 1 = pc') (k : xT G sc d M pc' L (.int (Int32.ofNat sc.1) :: st) h Q) : xT G sc d M pc L (.retAddr x0 :: st) h Q := tS4 hi rfl rfl hp k
theorem wR0 {nL : Nat} (hi : xIns G M pc = some .return_) (hm : (xMet G M).2.2 = (nL, none)) (k : Q (none, h, 0, 0)) : xT G sc d M pc L [] h Q := tR0 hi rfl (by rw [hm]; rfl) k
theorem wRi {nL : Nat} {ty : FieldType} {x : Int32} (hi : xIns G M pc = some .ireturn) (hm : (xMet G M).2.2 = (nL, some ty)) (hn : narrow ty (.int x) = .int x) (k : Q (some (.int x), h, 0, 0)) : xT G sc d M pc L [.int x] h Q := tR1 hi rfl (by rw [hm]; exact decide_eq_true hn) k
theorem wRl {nL : Nat} {x : Int64} (hi : xIns G M pc = some .lreturn) (hm : (xMet G M).2.2 = (nL, some .long)) (k : Q (some (.long x), h, 0, 0)) : xT G sc d M pc L [.long x] h Q := tR1 hi rfl (by rw [hm]; rfl) k
/-- a call whose run is known whole: it makes nothing -/
theorem wCall (pc' : Nat) {i : Instr} {kind N k0 ci nL : Nat} {rt : Option FieldType} {as rest : List Value} {v : Option Value} {h' : xH} (hi : xIns G M pc = some i) (hs : xsort i = 9) (hl : xlink (xMth G M) i = some (kind, N, k0, ci)) (hk : kind = 0 ∨ kind = 1 ∨ kind = 4 ∨ kind = 5) (hm : (xMet G N).2.2 = (nL, rt)) (hst : st = as.reverse ++ rest) (h0 : as.length = k0) (h2 : (rest.map (fun v => v.category)).sum ≤ 8) (h3 : (lg_sl as).length ≤ nL) (h4 : xhead kind ci as h = true) (hp : pc + 3 = pc')
    (hc : xT G sc d N 0 (lv_args 0 as) [] h (fun r => r = (v, h', 0, 0))) (k : xT G sc (d + 1) M pc' L (v.toList ++ rest) h' Q) : xT G sc (d + 1) M pc L st h Q := by
  subst hp
  subst h0
  subst hst
  refine tCall hi hs hl hk (as := as) (rest := rest) (by rw [List.take_left' (by simp)]; simp) (by rw [List.drop_left' (by simp)]) (by simp) h2 (by rw [hm]; exact h3) h4 (tPost hc ?_)
  rintro r rfl
  refine tPost k ?_
  rintro ⟨v2, h2', a2, b2⟩ hq
  simpa using hq
end XRU
theorem xlk0 {G : xG} {M k : Nat} {r : Nat × Nat × Nat} (h : xMth G M k = some (0, r)) : xlink (xMth G M) (.invokevirtual k) = some (0, r) := by simp only [xlink, h]
theorem xlk1 {G : xG} {M k : Nat} {r : Nat × Nat × Nat} (h : xMth G M k = some (1, r)) : xlink (xMth G M) (.invokestatic k) = some (1, r) := by simp only [xlink, h]
theorem xlk4 {G : xG} {M k : Nat} {r : Nat × Nat × Nat} (h : xMth G M k = some (4, r)) : xlink (xMth G M) (.invokespecial k) = some (4, r) := by simp only [xlink, h]
theorem xlk5 {G : xG} {M k : Nat} {r : Nat × Nat × Nat} (h : xMth G M k = some (5, r)) : xlink (xMth G M) (.invokespecial k) = some (5, r) := by simp only [xlink, h]
abbrev xI (n : Nat) : xE := .inl (.int, n, .inl (fun _ => 0))
abbrev xJ (n : Nat) : xE := .inl (.long, n, .inr (.inl (fun _ => 0)))
abbrev xB (n : Nat) : xE := .inl (.byte, n, .inl (fun _ => 0))
abbrev xZ (n : Nat) : xE := .inl (.boolean, n, .inl (fun _ => 0))
section XRV
variable {G : xG} {sc : xS} {d M pc : Nat} {L : xL} {st : List Value} {h : xH} {Q : xR → Prop}
/-- a call whose run is known whole, that answers nothing; what it makes is counted -/
theorem wCallV (pc' : Nat) {i : Instr} {kind N k0 ci nL : Nat} {rt : Option FieldType} (as rest : List Value) {h' : xH} {a b : Nat} (hi : xIns G M pc = some i) (hs : xsort i = 9) (hl : xlink (xMth G M) i = some (kind, N, k0, ci)) (hk : kind = 0 ∨ kind = 1 ∨ kind = 4 ∨ kind = 5) (hm : (xMet G N).2.2 = (nL, rt)) (ha : (st.take k0).reverse = as) (hr : st.drop k0 = rest) (h1 : k0 ≤ st.length) (h2 : (rest.map (fun v => v.category)).sum ≤ 8) (h3 : (lg_sl as).length ≤ nL) (h4 : xhead kind ci as h = true) (hp : pc + 3 = pc')
    (hc : xT G sc d N 0 (lv_args 0 as) [] h (fun r => r = (none, h', a, b))) (k : xT G sc (d + 1) M pc' L rest h' (fun r2 => Q (r2.1, r2.2.1, a + r2.2.2.1, b + r2.2.2.2))) : xT G sc (d + 1) M pc L st h Q := by
  subst hp
  refine tCall hi hs hl hk ha hr h1 h2 (by rw [hm]; exact h3) h4 (tPost hc ?_)
  rintro r rfl
  exact k
theorem wCallR (pc' : Nat) {i : Instr} {kind N k0 ci nL : Nat} {rt : Option FieldType} (as rest : List Value) {v : Value} {h' : xH} {a b : Nat} (hi : xIns G M pc = some i) (hs : xsort i = 9) (hl : xlink (xMth G M) i = some (kind, N, k0, ci)) (hk : kind = 0 ∨ kind = 1 ∨ kind = 4 ∨ kind = 5) (hm : (xMet G N).2.2 = (nL, rt)) (ha : (st.take k0).reverse = as) (hr : st.drop k0 = rest) (h1 : k0 ≤ st.length) (h2 : (rest.map (fun v => v.category)).sum ≤ 8) (h3 : (lg_sl as).length ≤ nL) (h4 : xhead kind ci as h = true) (hp : pc + 3 = pc')
    (hc : xT G sc d N 0 (lv_args 0 as) [] h (fun r => r = (some v, h', a, b))) (k : xT G sc (d + 1) M pc' L (v :: rest) h' (fun r2 => Q (r2.1, r2.2.1, a + r2.2.2.1, b + r2.2.2.2))) : xT G sc (d + 1) M pc L st h Q := by
  subst hp
  refine tCall hi hs hl hk ha hr h1 h2 (by rw [hm]; exact h3) h4 (tPost hc ?_)
  rintro r rfl
  exact k
/-- the same, where nothing is made -/
theorem wCallV0 (pc' : Nat) {i : Instr} {kind N k0 ci nL : Nat} {rt : Option FieldType} (as rest : List Value) {h' : xH} (hi : xIns G M pc = some i) (hs : xsort i = 9) (hl : xlink (xMth G M) i = some (kind, N, k0, ci)) (hk : kind = 0 ∨ kind = 1 ∨ kind = 4 ∨ kind = 5) (hm : (xMet G N).2.2 = (nL, rt)) (ha : (st.take k0).reverse = as) (hr : st.drop k0 = rest) (h1 : k0 ≤ st.length) (h2 : (rest.map (fun v => v.category)).sum ≤ 8) (h3 : (lg_sl as).length ≤ nL) (h4 : xhead kind ci as h = true) (hp : pc + 3 = pc')
    (hc : xT G sc d N 0 (lv_args 0 as) [] h (fun r => r = (none, h', 0, 0))) (k : xT G sc (d + 1) M pc' L rest h' Q) : xT G sc (d + 1) M pc L st h Q :=
  wCallV pc' as rest hi hs hl hk hm ha hr h1 h2 h3 h4 hp hc (tPost k (fun r hq => by simpa using hq))
theorem wCallR0 (pc' : Nat) {i : Instr} {kind N k0 ci nL : Nat} {rt : Option FieldType} (as rest : List Value) {v : Value} {h' : xH} (hi : xIns G M pc = some i) (hs : xsort i = 9) (hl : xlink (xMth G M) i = some (kind, N, k0, ci)) (hk : kind = 0 ∨ kind = 1 ∨ kind = 4 ∨ kind = 5) (hm : (xMet G N).2.2 = (nL, rt)) (ha : (st.take k0).reverse = as) (hr : st.drop k0 = rest) (h1 : k0 ≤ st.length) (h2 : (rest.map (fun v => v.category)).sum ≤ 8) (h3 : (lg_sl as).length ≤ nL) (h4 : xhead kind ci as h = true) (hp : pc + 3 = pc')
    (hc : xT G sc d N 0 (lv_args 0 as) [] h (fun r => r = (some v, h', 0, 0))) (k : xT G sc (d + 1) M pc' L (v :: rest) h' Q) : xT G sc (d + 1) M pc L st h Q :=
  wCallR pc' as rest hi hs hl hk hm ha hr h1 h2 h3 h4 hp hc (tPost k (fun r hq => by simpa using hq))
end XRV
theorem xset_self {h : xH} {a : Nat} {c : xE} (hc : h[a]? = some c) : h.set a c = h := by
  apply List.ext_getElem?
  intro i
  by_cases hi : i = a
  · subst hi
    rw [List.getElem?_set_self (List.getElem?_eq_some_iff.mp hc).1, hc]
  · rw [List.getElem?_set_ne (Ne.symm hi)]
theorem xset_get {h : xH} {a : Nat} {c c' : xE} (hc : h[a]? = some c) : (h.set a c')[a]? = some c' := List.getElem?_set_self (List.getElem?_eq_some_iff.mp hc).1
theorem xset_ne {h : xH} {a b : Nat} {c' : xE} (hab : a ≠ b) : (h.set a c')[b]? = h[b]? := List.getElem?_set_ne hab
/-- a place in a row, known as a number -/
theorem xinb {n N : Nat} (h : n < N) (hN : N < 2 ^ 31) : ¬ (nI n < 0 ∨ N ≤ (nI n).toNatClampNeg) := nI_in h hN
theorem xinb2 {j : Int32} {N : Nat} (M : Int32) (h1 : ¬ j < 0) (h2 : ¬ M ≤ j) (hM : M.toInt = N) : ¬ (j < 0 ∨ N ≤ j.toNatClampNeg) := by
  rintro (z | z)
  · exact h1 z
  · apply h2
    rw [Int32.le_iff_toInt_le, hM]
    have h3 : ¬ j.toInt < 0 := fun q => h1 (by rw [Int32.lt_iff_toInt_lt]; simpa using q)
    have h4 : j.toNatClampNeg = j.toInt.toNat := rfl
    omega
section XRE
variable {G : xG} {sc : xS} {d M pc : Nat} {L : xL} {st : List Value} {h : xH} {v : Option Value} {hz : xH}
/-- rules for a run that is known whole: what is still to come is counted down -/
theorem eNew {k0 ci n N : Nat} (a b a' b' : Nat) (hi : xIns G M pc = some (.new k0)) (hc : xCls G M k0 = some ci) (hn : h.length = n) (hN : (xDfl G ci).length = N) (ha : 1 + a' = a) (hb : N + b' = b) (k : xT G sc d M (pc + 3) L (.ref n :: st) (h ++ [.inr (ci, xDfl G ci)]) (fun r => r = (v, hz, a', b'))) : xT G sc d M pc L st h (fun r => r = (v, hz, a, b)) := by
  subst ha; subst hb; subst hN
  exact tNew hi hc hn (tPost k (by rintro r rfl; rfl))
theorem eNewA {t : ArrayType} {k0 : Int32} {n N : Nat} {c : xE} (a b a' b' : Nat) (hi : xIns G M pc = some (.newarray t)) (hk : ¬ (k0 < 0 ∨ 1000000 < k0.toNatClampNeg)) (hN : k0.toNatClampNeg = N) (hc : xnew t N = some c) (hn : h.length = n) (ha : 1 + a' = a) (hb : N + b' = b) (k : xT G sc d M (pc + 2) L (.ref n :: st) (h ++ [c]) (fun r => r = (v, hz, a', b'))) : xT G sc d M pc L (.int k0 :: st) h (fun r => r = (v, hz, a, b)) := by
  subst ha; subst hb
  exact tNewA hi hk hN hc hn (tPost k (by rintro r rfl; rfl))
theorem eCallV (pc' : Nat) {i : Instr} {kind N k0 ci nL : Nat} {rt : Option FieldType} (as rest : List Value) {h' : xH} {a0 b0 : Nat} (a b a' b' : Nat) (hi : xIns G M pc = some i) (hs : xsort i = 9) (hl : xlink (xMth G M) i = some (kind, N, k0, ci)) (hk : kind = 0 ∨ kind = 1 ∨ kind = 4 ∨ kind = 5) (hm : (xMet G N).2.2 = (nL, rt)) (ha : (st.take k0).reverse = as) (hr : st.drop k0 = rest) (h1 : k0 ≤ st.length) (h2 : (rest.map (fun v => v.category)).sum ≤ 8) (h3 : (lg_sl as).length ≤ nL) (h4 : xhead kind ci as h = true) (hp : pc + 3 = pc')
    (hc : xT G sc d N 0 (lv_args 0 as) [] h (fun r => r = (none, h', a0, b0))) (hca : a0 + a' = a) (hcb : b0 + b' = b) (k : xT G sc (d + 1) M pc' L rest h' (fun r => r = (v, hz, a', b'))) : xT G sc (d + 1) M pc L st h (fun r => r = (v, hz, a, b)) := by
  subst hca; subst hcb
  exact wCallV pc' as rest hi hs hl hk hm ha hr h1 h2 h3 h4 hp hc (tPost k (by rintro r rfl; rfl))
end XRE
end
section
-- ===== end of PART A; then your names; then what follows =====
/-! THE CLAIM OUT OF ONE WALK OF THE LAW'S BODY. Your part is whole_start (and what it stands on); all else here is the same for every law, but numbers. -/
def R_law : String := "LateRowsLaw"
def lw_P (b : Addr) (xs : List Int32) (args : Array Value) (s : State) : Prop := args = #[.ref b] ∧ s.IntsAt b xs ∧ xs.length ≤ 6 ∧ (Jvm.Cond.and given_1 narrow_1).before args s = true
def lw_Q (_ : Array Value) (s : State) (o : Outcome) (t : State) : Prop := o = .returned (some (.int 1)) ∧ Framed s o t [] 600000 7302250
def lw_Z (below : List Frame) (a : Array Value) (s : State) : State → Prop := fun t => ∃ o, t.status = .running ∧ Ended t below o ∧ lw_Q a s o t
/-- the law's own end, with 1 on the stack, nothing written that was there before, its room as the claim has it -/
theorem lw_ret {p : Program} {l : Launch} {e : Env} {s : State} {m : MethodId} {below : List Frame} {meth : Method} {c : Code} {b : Nat} (hx : p.tables.exec = Jvm.exec) (hb : c.code = code) (hr : meth.sig.returnType = ret) (hlocks : meth.locks = false) {pc : Nat} {H : Heap} {ls : Array Slot} (hdg : decode code pc = .ok (.ireturn, 1)) : W p l e room_1 s m #[Value.ref b] below meth c H [] 600000 7302250 (lw_Z below #[Value.ref b] s) (F0 m pc ls [.int 1]) := by
  intro T hT X
  obtain ⟨fs, hret, hrun, hended, hW, hframe⟩ := X.leave (v := some (.int 1)) (hlocks := hlocks) (fun h => by rw [hr] at h; cases h)
  have hmeth' : T.vm.method? m = some meth := X.method'
  refine ⟨T.setFrames fs, ?_, .returned (some (.int 1)), hrun, hended, rfl, ⟨_, rfl⟩, hW, hframe⟩
  jvm_step X.here [X.here.top, hx, hb, hdg, hmeth', hr, ret, narrow_b1]
  (try refine ⟨rfl, ?_⟩); (try refine ⟨rfl, ?_⟩)
  first | (intro acts; rw [hret _ acts rfl rfl rfl]) | rw [hret _ _ rfl rfl rfl]
  exact Steps.refl _
/-- what holds at the law's entry: the machine, the code, the tables' words (any of lw_tbl by 'hts w (by decide +kernel)'), the script of L ints xs at the cell b, what the Statement gives of the start (any of its parts by flat_of_before) -/
def lw_At (p : Program) (s : State) (m : MethodId) (meth : Method) (c : Code) (b L : Nat) (xs : Nat → Int32) : Prop :=
  p.tables.exec = Jvm.exec ∧ c.code = code ∧ meth.sig.returnType = ret ∧ c.maxLocals = 4 ∧ s.vm.findClass R_law = some m.cls ∧ (∀ w ∈ lw_tbl, w.before #[Value.ref b] s = true) ∧ va_X b L xs s s.heap ∧ b < s.heap.size ∧ meth.locks = false ∧ (Jvm.Cond.and given_1 narrow_1).before #[Value.ref b] s = true
end
section
theorem xcl_inst {ci : Nat} {C : String} {T : u_T} {N : Nat} (hc : vwCl[ci]? = some (C, T, N)) : Cond.instantiable C N ∈ xTs := by
  have hl : ci < 8 := by
    have := (List.getElem?_eq_some_iff.mp hc).1
    simpa using this
  obtain ⟨d, hd⟩ : ∃ d, xdf[ci]? = some d := ⟨_, List.getElem?_eq_getElem (by simpa [xdf] using hl)⟩
  have h2 := xzip (f := xclD) xclD_all hc hd
  simp only [xclD, Bool.and_eq_true, decide_eq_true_eq] at h2
  obtain ⟨⟨⟨⟨⟨⟨a1, a2⟩, a3⟩, a4⟩, a5⟩, a6⟩, a7⟩ := h2
  exact List.mem_filter.mpr ⟨a1, a2⟩
def xdA (cI cJ cB cZ : ClassId) : FieldType → ClassId
  | .int => cI
  | .long => cJ
  | .byte => cB
  | .boolean => cZ
  | _ => 0
/-- what is known of the classes at the law's entry -/
theorem x_known {s : State} {args : Array Value} (hts : ∀ w ∈ xTs, w.before args s = true) : ∃ (D : va_G) (dA : FieldType → ClassId), va_K D vwCl (xtys dA) s := by
  have hk : ∀ k : Nat, ∃ q : ClassId × (Nat → Nat), ∀ r, vwCl[k]? = some r → u_Kn s r.1 r.2.1 r.2.2 q.1 q.2 := by
    intro k
    cases h : vwCl[k]? with
    | none => exact ⟨(0, fun _ => 0), fun q hq => by cases hq⟩
    | some q =>
      obtain ⟨C, T, N⟩ := q
      obtain ⟨c, iS, hK⟩ := u_known (C := C) (T := T) (N := N) (n := N) hts (xcl_ws h) (hts _ (xcl_inst h))
      exact ⟨(c, iS), fun q hq => by cases hq; exact hK⟩
  obtain ⟨w1, w2, w3, w4⟩ := xok_arr
  obtain ⟨cI, kI, pI, fI, gI, eI⟩ := Cond.arrayClass_spec (hts _ w1)
  obtain ⟨cJ, kJ, pJ, fJ, gJ, eJ⟩ := Cond.arrayClass_spec (hts _ w2)
  obtain ⟨cB, kB, pB, fB, gB, eB⟩ := Cond.arrayClass_spec (hts _ w3)
  obtain ⟨cZ, kZ, pZ, fZ, gZ, eZ⟩ := Cond.arrayClass_spec (hts _ w4)
  refine ⟨(fun k => (Classical.choose (hk k)).1, fun k => (Classical.choose (hk k)).2), xdA cI cJ cB cZ, fun c q hq => Classical.choose_spec (hk c) q hq, fun k q hq => ?_⟩
  match k, hq with
  | 0, hq => cases hq; exact ⟨fun n z => ⟨fun k h => (by cases h), kI, gI, pI, eI⟩, fI⟩
  | 1, hq => cases hq; exact ⟨fun n z => ⟨fun k h => (by cases h), kJ, gJ, pJ, eJ⟩, fJ⟩
  | 2, hq => cases hq; exact ⟨fun n z => ⟨fun k h => (by cases h), kB, gB, pB, eB⟩, fB⟩
  | 3, hq => cases hq; exact ⟨fun n z => ⟨fun k h => (by cases h), kZ, gZ, pZ, eZ⟩, fZ⟩
  | k + 4, hq => simp [xtys] at hq
theorem x_nest {s : State} {args : Array Value} (hts : ∀ w ∈ lw_tbl, w.before args s = true) (h : ∀ q ∈ xnest, Cond.methodLinkNest q.1 q.2.1 q.2.2.1 q.2.2.2 ∈ lw_tbl) : xN xnest s := fun q hq => va_Nw.of rfl (hts _ (h q hq))
set_option maxHeartbeats 4000000 in
/-- THE LAW, out of a run of the evaluator -/
theorem x_law {p : Program} {e : Env} {s : State} {m : MethodId} {below : List Frame} {meth : Method} {c : Code} (l : Launch) {b L : Nat} {xs : Nat → Int32} (C0 : lw_At p s m meth c b L xs) (hnest : ∀ q ∈ xnest, Cond.methodLinkNest q.1 q.2.1 q.2.2.1 q.2.2.2 ∈ lw_tbl)
    (hrun : xT xg (L, xs) 1300 0 0 [(0, .retAddr 0)] [] [] (fun r => r.1 = some (.int 1) ∧ r.2.2.1 ≤ 600000 ∧ r.2.2.2 ≤ 7302250)) : W p l e room_1 s m #[Value.ref b] below meth c s.heap [] 0 0 (lw_Z below #[Value.ref b] s) (entryFrame m ([Value.ref b] : List Value).toArray 4) := by
  obtain ⟨hx, hb, hr, hml, hown, hts, hX, hbl, hlocks, hgv⟩ := id C0
  have hts' : ∀ w ∈ xTs, w.before #[Value.ref b] s = true := fun w hw => hts w (List.mem_filter.mp hw).1
  obtain ⟨D, dA, hK⟩ := x_known hts'
  obtain ⟨n, ⟨v, h', a1, a2⟩, hev, e1, e2, e3⟩ := hrun
  have e1 : v = some (.int 1) := e1
  have e2 : a1 ≤ 600000 := e2
  have e3 : a2 ≤ 7302250 := e3
  subst e1
  have hle := lv_entry ([Value.ref b]) (n := 4) (Nat.le_of_ble_eq_true rfl)
  rw [lg_entry_eq]
  refine x_sound (D := D) (dA := dA) (base := s.heap.size) (b := b) (sc := (L, xs)) (l := l) xg_ok xg_okm n 1300 0 0 [(0, .retAddr 0)] [] [] _ hev p e s m _ below meth c room_1 s.heap [] 0 0 _ _ ⟨hx, hb, hml, hown, hts', hK, fun z => by exact absurd z (by decide +kernel), hbl, x_nest hts hnest⟩ rfl ⟨rfl, fun k q hq => by simp [xw] at hq⟩ hX (fun q hq => by cases hq) hle (by show 0 + a1 ≤ 600000; omega) (by show 0 + a2 ≤ 7302250; omega) (Nat.le_of_ble_eq_true rfl) (Nat.le_of_ble_eq_true rfl) ?_
  intro pc' ls' i H' locs' hd hv hsz hw' hX' hlc
  have hi : i = .ireturn := by
    unfold xret at hv
    split at hv
    · rename_i z; cases z
    · rfl
    · rename_i z; cases z
    · cases hv
  subst hi
  refine va_forget (fun q hq => hlc q hq) ?_
  refine W.widen (k := 600000) (n := 7302250) (by show 0 + a1 ≤ 600000; omega) (by show 0 + a2 ≤ 7302250; omega) ?_
  exact lw_ret hx hb hr hlocks hd
end
section
theorem i98_0 : xIns xg 98 0 = some (.iload_n 0) := by decide +kernel
theorem i98_1 : xIns xg 98 1 = some (.ifCond .lt 13) := by decide +kernel
theorem i98_14 : xIns xg 98 14 = some (.iconst 0) := by decide +kernel
theorem i98_15 : xIns xg 98 15 = some (.ireturn) := by decide +kernel
theorem m98 : (xMet xg 98).2.2 = (1, (some .boolean)) := by decide +kernel
theorem i98_4 : xIns xg 98 4 = some (.iload_n 0) := by decide +kernel
theorem i98_5 : xIns xg 98 5 = some (.bipush 8) := by decide +kernel
theorem i98_7 : xIns xg 98 7 = some (.if_icmp .ge 7) := by decide +kernel
theorem i98_10 : xIns xg 98 10 = some (.iconst 1) := by decide +kernel
theorem i98_11 : xIns xg 98 11 = some (.goto 4) := by decide +kernel
theorem i97_0 : xIns xg 97 0 = some (.iload_n 0) := by decide +kernel
theorem i97_1 : xIns xg 97 1 = some (.ifCond .lt 12) := by decide +kernel
theorem i97_13 : xIns xg 97 13 = some (.iconst 0) := by decide +kernel
theorem i97_14 : xIns xg 97 14 = some (.ireturn) := by decide +kernel
theorem m97 : (xMet xg 97).2.2 = (1, (some .boolean)) := by decide +kernel
theorem i97_4 : xIns xg 97 4 = some (.iload_n 0) := by decide +kernel
theorem i97_5 : xIns xg 97 5 = some (.iconst 4) := by decide +kernel
theorem i97_6 : xIns xg 97 6 = some (.if_icmp .ge 7) := by decide +kernel
theorem i97_9 : xIns xg 97 9 = some (.iconst 1) := by decide +kernel
theorem i97_10 : xIns xg 97 10 = some (.goto 4) := by decide +kernel
set_option maxRecDepth 100000 in
theorem b_isStream_n {sc : xS} {d : Nat} {h : xH} (s : Int32) (h1 : s < 0) : xT xg sc d 98 0 [(0, .int s)] [] h (fun r => r = (some (.int 0), h, 0, 0)) := by
  refine wLin 1 i98_0 rfl rfl ?_
  refine wZT 14 i98_1 rfl (decide_eq_true h1) ?_
  refine wK 15 0 i98_14 (by decide) rfl ?_
  refine wRi i98_15 m98 (by decide) ?_
  exact rfl
set_option maxRecDepth 100000 in
theorem b_isStream_b {sc : xS} {d : Nat} {h : xH} (s : Int32) (h1 : ¬ s < 0) (h2 : 8 ≤ s) : xT xg sc d 98 0 [(0, .int s)] [] h (fun r => r = (some (.int 0), h, 0, 0)) := by
  refine wLin 1 i98_0 rfl rfl ?_
  refine wZF 14 4 i98_1 rfl (decide_eq_false h1) rfl ?_
  refine wLin 5 i98_4 rfl rfl ?_
  refine wKb 7 8 i98_5 (by decide) rfl ?_
  refine wCT 14 i98_7 rfl (decide_eq_true h2) ?_
  refine wK 15 0 i98_14 (by decide) rfl ?_
  refine wRi i98_15 m98 (by decide) ?_
  exact rfl
set_option maxRecDepth 100000 in
theorem b_isStream_y {sc : xS} {d : Nat} {h : xH} (s : Int32) (h1 : ¬ s < 0) (h2 : ¬ 8 ≤ s) : xT xg sc d 98 0 [(0, .int s)] [] h (fun r => r = (some (.int 1), h, 0, 0)) := by
  refine wLin 1 i98_0 rfl rfl ?_
  refine wZF 14 4 i98_1 rfl (decide_eq_false h1) rfl ?_
  refine wLin 5 i98_4 rfl rfl ?_
  refine wKb 7 8 i98_5 (by decide) rfl ?_
  refine wCF 14 10 i98_7 rfl (decide_eq_false h2) rfl ?_
  refine wK 11 1 i98_10 (by decide) rfl ?_
  refine wGo 15 i98_11 rfl ?_
  refine wRi i98_15 m98 (by decide) ?_
  exact rfl
set_option maxRecDepth 100000 in
theorem b_isSheet_n {sc : xS} {d : Nat} {h : xH} (s : Int32) (h1 : s < 0) : xT xg sc d 97 0 [(0, .int s)] [] h (fun r => r = (some (.int 0), h, 0, 0)) := by
  refine wLin 1 i97_0 rfl rfl ?_
  refine wZT 13 i97_1 rfl (decide_eq_true h1) ?_
  refine wK 14 0 i97_13 (by decide) rfl ?_
  refine wRi i97_14 m97 (by decide) ?_
  exact rfl
set_option maxRecDepth 100000 in
theorem b_isSheet_b {sc : xS} {d : Nat} {h : xH} (s : Int32) (h1 : ¬ s < 0) (h2 : 4 ≤ s) : xT xg sc d 97 0 [(0, .int s)] [] h (fun r => r = (some (.int 0), h, 0, 0)) := by
  refine wLin 1 i97_0 rfl rfl ?_
  refine wZF 13 4 i97_1 rfl (decide_eq_false h1) rfl ?_
  refine wLin 5 i97_4 rfl rfl ?_
  refine wK 6 4 i97_5 (by decide) rfl ?_
  refine wCT 13 i97_6 rfl (decide_eq_true h2) ?_
  refine wK 14 0 i97_13 (by decide) rfl ?_
  refine wRi i97_14 m97 (by decide) ?_
  exact rfl
set_option maxRecDepth 100000 in
theorem b_isSheet_y {sc : xS} {d : Nat} {h : xH} (s : Int32) (h1 : ¬ s < 0) (h2 : ¬ 4 ≤ s) : xT xg sc d 97 0 [(0, .int s)] [] h (fun r => r = (some (.int 1), h, 0, 0)) := by
  refine wLin 1 i97_0 rfl rfl ?_
  refine wZF 13 4 i97_1 rfl (decide_eq_false h1) rfl ?_
  refine wLin 5 i97_4 rfl rfl ?_
  refine wK 6 4 i97_5 (by decide) rfl ?_
  refine wCF 13 9 i97_6 rfl (decide_eq_false h2) rfl ?_
  refine wK 10 1 i97_9 (by decide) rfl ?_
  refine wGo 14 i97_10 rfl ?_
  refine wRi i97_14 m97 (by decide) ?_
  exact rfl
end
section
theorem i73_97 : xIns xg 73 97 = some (.iload_n 2) := by decide +kernel
theorem i73_98 : xIns xg 73 98 = some (.iload_n 1) := by decide +kernel
theorem i73_99 : xIns xg 73 99 = some (.if_icmp .ge 16) := by decide +kernel
theorem i73_102 : xIns xg 73 102 = some (.aload_n 0) := by decide +kernel
theorem i73_103 : xIns xg 73 103 = some (.getfield 22) := by decide +kernel
theorem i73_106 : xIns xg 73 106 = some (.iload_n 2) := by decide +kernel
theorem i73_107 : xIns xg 73 107 = some (.iconst 1) := by decide +kernel
theorem i73_108 : xIns xg 73 108 = some (.iastore) := by decide +kernel
theorem i73_109 : xIns xg 73 109 = some (.iinc 2 1) := by decide +kernel
theorem i73_112 : xIns xg 73 112 = some (.goto (-15)) := by decide +kernel
theorem i73_115 : xIns xg 73 115 = some (.return_) := by decide +kernel
theorem m73 : (xMet xg 73).2.2 = (3, none) := by decide +kernel
theorem f73_22 : xFld xg 73 22 = some (5, 2) := by decide +kernel
theorem i66_0 : xIns xg 66 0 = some (.aload_n 0) := by decide +kernel
theorem i66_1 : xIns xg 66 1 = some (.invokespecial 3) := by decide +kernel
theorem l66_3 : xMth xg 66 3 = some (6, 0, 0, 0) := by decide +kernel
theorem i66_4 : xIns xg 66 4 = some (.iload_n 1) := by decide +kernel
theorem i66_5 : xIns xg 66 5 = some (.bipush 24) := by decide +kernel
theorem i66_7 : xIns xg 66 7 = some (.imul) := by decide +kernel
theorem i66_8 : xIns xg 66 8 = some (.istore_n 2) := by decide +kernel
theorem m66 : (xMet xg 66).2.2 = (3, none) := by decide +kernel
theorem i66_9 : xIns xg 66 9 = some (.aload_n 0) := by decide +kernel
theorem i66_10 : xIns xg 66 10 = some (.iload_n 1) := by decide +kernel
theorem i66_11 : xIns xg 66 11 = some (.newarray .int) := by decide +kernel
theorem i66_13 : xIns xg 66 13 = some (.putfield 9) := by decide +kernel
theorem p66_9 : xPut xg 66 9 = some (4, 0, (.array .int)) := by decide +kernel
theorem i66_16 : xIns xg 66 16 = some (.aload_n 0) := by decide +kernel
theorem i66_17 : xIns xg 66 17 = some (.iload_n 2) := by decide +kernel
theorem i66_18 : xIns xg 66 18 = some (.newarray .int) := by decide +kernel
theorem i66_20 : xIns xg 66 20 = some (.putfield 15) := by decide +kernel
theorem p66_15 : xPut xg 66 15 = some (4, 1, (.array .int)) := by decide +kernel
theorem i66_23 : xIns xg 66 23 = some (.aload_n 0) := by decide +kernel
theorem i66_24 : xIns xg 66 24 = some (.iload_n 2) := by decide +kernel
theorem i66_25 : xIns xg 66 25 = some (.newarray .int) := by decide +kernel
theorem i66_27 : xIns xg 66 27 = some (.putfield 18) := by decide +kernel
theorem p66_18 : xPut xg 66 18 = some (4, 2, (.array .int)) := by decide +kernel
theorem i66_30 : xIns xg 66 30 = some (.aload_n 0) := by decide +kernel
theorem i66_31 : xIns xg 66 31 = some (.iload_n 2) := by decide +kernel
theorem i66_32 : xIns xg 66 32 = some (.newarray .int) := by decide +kernel
theorem i66_34 : xIns xg 66 34 = some (.putfield 21) := by decide +kernel
theorem p66_21 : xPut xg 66 21 = some (4, 3, (.array .int)) := by decide +kernel
theorem i66_37 : xIns xg 66 37 = some (.aload_n 0) := by decide +kernel
theorem i66_38 : xIns xg 66 38 = some (.iload_n 2) := by decide +kernel
theorem i66_39 : xIns xg 66 39 = some (.newarray .int) := by decide +kernel
theorem i66_41 : xIns xg 66 41 = some (.putfield 24) := by decide +kernel
theorem p66_24 : xPut xg 66 24 = some (4, 4, (.array .int)) := by decide +kernel
theorem i66_44 : xIns xg 66 44 = some (.aload_n 0) := by decide +kernel
theorem i66_45 : xIns xg 66 45 = some (.iload_n 2) := by decide +kernel
theorem i66_46 : xIns xg 66 46 = some (.newarray .int) := by decide +kernel
theorem i66_48 : xIns xg 66 48 = some (.putfield 27) := by decide +kernel
theorem p66_27 : xPut xg 66 27 = some (4, 5, (.array .int)) := by decide +kernel
theorem i66_51 : xIns xg 66 51 = some (.aload_n 0) := by decide +kernel
theorem i66_52 : xIns xg 66 52 = some (.iload_n 2) := by decide +kernel
theorem i66_53 : xIns xg 66 53 = some (.newarray .int) := by decide +kernel
theorem i66_55 : xIns xg 66 55 = some (.putfield 30) := by decide +kernel
theorem p66_30 : xPut xg 66 30 = some (4, 6, (.array .int)) := by decide +kernel
theorem i66_58 : xIns xg 66 58 = some (.aload_n 0) := by decide +kernel
theorem i66_59 : xIns xg 66 59 = some (.iload_n 2) := by decide +kernel
theorem i66_60 : xIns xg 66 60 = some (.bipush 8) := by decide +kernel
theorem i66_62 : xIns xg 66 62 = some (.imul) := by decide +kernel
theorem i66_63 : xIns xg 66 63 = some (.newarray .long) := by decide +kernel
theorem i66_65 : xIns xg 66 65 = some (.putfield 33) := by decide +kernel
theorem p66_33 : xPut xg 66 33 = some (4, 7, (.array .long)) := by decide +kernel
theorem i66_68 : xIns xg 66 68 = some (.return_) := by decide +kernel
theorem i17_0 : xIns xg 17 0 = some (.aload_n 0) := by decide +kernel
theorem i17_1 : xIns xg 17 1 = some (.invokespecial 3) := by decide +kernel
theorem l17_3 : xMth xg 17 3 = some (6, 0, 0, 0) := by decide +kernel
theorem i17_4 : xIns xg 17 4 = some (.aload_n 0) := by decide +kernel
theorem i17_5 : xIns xg 17 5 = some (.new 9) := by decide +kernel
theorem n17_9 : xCls xg 17 9 = some 4 := by decide +kernel
theorem i17_8 : xIns xg 17 8 = some (.dup) := by decide +kernel
theorem i17_9 : xIns xg 17 9 = some (.iconst 1) := by decide +kernel
theorem i17_10 : xIns xg 17 10 = some (.invokespecial 11) := by decide +kernel
theorem l17_11 : xMth xg 17 11 = some (4, 66, 2, 4) := by decide +kernel
theorem i17_13 : xIns xg 17 13 = some (.putfield 14) := by decide +kernel
theorem p17_14 : xPut xg 17 14 = some (1, 0, (.object "LateRows$Texts")) := by decide +kernel
theorem i17_16 : xIns xg 17 16 = some (.aload_n 0) := by decide +kernel
theorem i17_17 : xIns xg 17 17 = some (.iconst 0) := by decide +kernel
theorem i17_18 : xIns xg 17 18 = some (.putfield 20) := by decide +kernel
theorem p17_20 : xPut xg 17 20 = some (1, 1, .int) := by decide +kernel
theorem i17_21 : xIns xg 17 21 = some (.aload_n 0) := by decide +kernel
theorem i17_22 : xIns xg 17 22 = some (.bipush 120) := by decide +kernel
theorem i17_24 : xIns xg 17 24 = some (.newarray .int) := by decide +kernel
theorem i17_26 : xIns xg 17 26 = some (.putfield 24) := by decide +kernel
theorem p17_24 : xPut xg 17 24 = some (1, 2, (.array .int)) := by decide +kernel
theorem i17_29 : xIns xg 17 29 = some (.aload_n 0) := by decide +kernel
theorem i17_30 : xIns xg 17 30 = some (.bipush 121) := by decide +kernel
theorem i17_32 : xIns xg 17 32 = some (.newarray .int) := by decide +kernel
theorem i17_34 : xIns xg 17 34 = some (.putfield 28) := by decide +kernel
theorem p17_28 : xPut xg 17 28 = some (1, 3, (.array .int)) := by decide +kernel
theorem i17_37 : xIns xg 17 37 = some (.aload_n 0) := by decide +kernel
theorem i17_38 : xIns xg 17 38 = some (.bipush 121) := by decide +kernel
theorem i17_40 : xIns xg 17 40 = some (.newarray .int) := by decide +kernel
theorem i17_42 : xIns xg 17 42 = some (.putfield 31) := by decide +kernel
theorem p17_31 : xPut xg 17 31 = some (1, 4, (.array .int)) := by decide +kernel
theorem i17_45 : xIns xg 17 45 = some (.aload_n 0) := by decide +kernel
theorem i17_46 : xIns xg 17 46 = some (.bipush 121) := by decide +kernel
theorem i17_48 : xIns xg 17 48 = some (.newarray .int) := by decide +kernel
theorem i17_50 : xIns xg 17 50 = some (.putfield 34) := by decide +kernel
theorem p17_34 : xPut xg 17 34 = some (1, 5, (.array .int)) := by decide +kernel
theorem i17_53 : xIns xg 17 53 = some (.aload_n 0) := by decide +kernel
theorem i17_54 : xIns xg 17 54 = some (.iconst 0) := by decide +kernel
theorem i17_55 : xIns xg 17 55 = some (.putfield 37) := by decide +kernel
theorem p17_37 : xPut xg 17 37 = some (1, 6, .int) := by decide +kernel
theorem i17_58 : xIns xg 17 58 = some (.aload_n 0) := by decide +kernel
theorem i17_59 : xIns xg 17 59 = some (.iconst (-1)) := by decide +kernel
theorem i17_60 : xIns xg 17 60 = some (.putfield 40) := by decide +kernel
theorem p17_40 : xPut xg 17 40 = some (1, 7, .int) := by decide +kernel
theorem i17_63 : xIns xg 17 63 = some (.return_) := by decide +kernel
theorem m17 : (xMet xg 17).2.2 = (1, none) := by decide +kernel
theorem i6_0 : xIns xg 6 0 = some (.aload_n 0) := by decide +kernel
theorem i6_1 : xIns xg 6 1 = some (.invokespecial 3) := by decide +kernel
theorem l6_3 : xMth xg 6 3 = some (6, 0, 0, 0) := by decide +kernel
theorem i6_4 : xIns xg 6 4 = some (.aload_n 0) := by decide +kernel
theorem i6_5 : xIns xg 6 5 = some (.sipush 1024) := by decide +kernel
theorem i6_8 : xIns xg 6 8 = some (.newarray .int) := by decide +kernel
theorem i6_10 : xIns xg 6 10 = some (.putfield 11) := by decide +kernel
theorem p6_11 : xPut xg 6 11 = some (0, 0, (.array .int)) := by decide +kernel
theorem i6_13 : xIns xg 6 13 = some (.aload_n 0) := by decide +kernel
theorem i6_14 : xIns xg 6 14 = some (.iconst 0) := by decide +kernel
theorem i6_15 : xIns xg 6 15 = some (.putfield 15) := by decide +kernel
theorem p6_15 : xPut xg 6 15 = some (0, 1, .int) := by decide +kernel
theorem i6_18 : xIns xg 6 18 = some (.return_) := by decide +kernel
theorem m6 : (xMet xg 6).2.2 = (1, none) := by decide +kernel
theorem i73_0 : xIns xg 73 0 = some (.aload_n 0) := by decide +kernel
theorem i73_1 : xIns xg 73 1 = some (.invokespecial 3) := by decide +kernel
theorem l73_3 : xMth xg 73 3 = some (6, 0, 0, 0) := by decide +kernel
theorem i73_4 : xIns xg 73 4 = some (.aload_n 0) := by decide +kernel
theorem i73_5 : xIns xg 73 5 = some (.iconst 0) := by decide +kernel
theorem i73_6 : xIns xg 73 6 = some (.putfield 9) := by decide +kernel
theorem p73_9 : xPut xg 73 9 = some (5, 11, .int) := by decide +kernel
theorem i73_9 : xIns xg 73 9 = some (.aload_n 0) := by decide +kernel
theorem i73_10 : xIns xg 73 10 = some (.iload_n 1) := by decide +kernel
theorem i73_11 : xIns xg 73 11 = some (.newarray .int) := by decide +kernel
theorem i73_13 : xIns xg 73 13 = some (.putfield 15) := by decide +kernel
theorem p73_15 : xPut xg 73 15 = some (5, 0, (.array .int)) := by decide +kernel
theorem i73_16 : xIns xg 73 16 = some (.aload_n 0) := by decide +kernel
theorem i73_17 : xIns xg 73 17 = some (.iload_n 1) := by decide +kernel
theorem i73_18 : xIns xg 73 18 = some (.newarray .int) := by decide +kernel
theorem i73_20 : xIns xg 73 20 = some (.putfield 19) := by decide +kernel
theorem p73_19 : xPut xg 73 19 = some (5, 1, (.array .int)) := by decide +kernel
theorem i73_23 : xIns xg 73 23 = some (.aload_n 0) := by decide +kernel
theorem i73_24 : xIns xg 73 24 = some (.iload_n 1) := by decide +kernel
theorem i73_25 : xIns xg 73 25 = some (.newarray .int) := by decide +kernel
theorem i73_27 : xIns xg 73 27 = some (.putfield 22) := by decide +kernel
theorem p73_22 : xPut xg 73 22 = some (5, 2, (.array .int)) := by decide +kernel
theorem i73_30 : xIns xg 73 30 = some (.aload_n 0) := by decide +kernel
theorem i73_31 : xIns xg 73 31 = some (.iload_n 1) := by decide +kernel
theorem i73_32 : xIns xg 73 32 = some (.newarray .boolean) := by decide +kernel
theorem i73_34 : xIns xg 73 34 = some (.putfield 25) := by decide +kernel
theorem p73_25 : xPut xg 73 25 = some (5, 3, (.array .boolean)) := by decide +kernel
theorem i73_37 : xIns xg 73 37 = some (.aload_n 0) := by decide +kernel
theorem i73_38 : xIns xg 73 38 = some (.iload_n 1) := by decide +kernel
theorem i73_39 : xIns xg 73 39 = some (.newarray .int) := by decide +kernel
theorem i73_41 : xIns xg 73 41 = some (.putfield 29) := by decide +kernel
theorem p73_29 : xPut xg 73 29 = some (5, 4, (.array .int)) := by decide +kernel
theorem i73_44 : xIns xg 73 44 = some (.aload_n 0) := by decide +kernel
theorem i73_45 : xIns xg 73 45 = some (.iload_n 1) := by decide +kernel
theorem i73_46 : xIns xg 73 46 = some (.newarray .int) := by decide +kernel
theorem i73_48 : xIns xg 73 48 = some (.putfield 32) := by decide +kernel
theorem p73_32 : xPut xg 73 32 = some (5, 5, (.array .int)) := by decide +kernel
theorem i73_51 : xIns xg 73 51 = some (.aload_n 0) := by decide +kernel
theorem i73_52 : xIns xg 73 52 = some (.iload_n 1) := by decide +kernel
theorem i73_53 : xIns xg 73 53 = some (.bipush 64) := by decide +kernel
theorem i73_55 : xIns xg 73 55 = some (.imul) := by decide +kernel
theorem i73_56 : xIns xg 73 56 = some (.newarray .byte) := by decide +kernel
theorem i73_58 : xIns xg 73 58 = some (.putfield 35) := by decide +kernel
theorem p73_35 : xPut xg 73 35 = some (5, 6, (.array .byte)) := by decide +kernel
theorem i73_61 : xIns xg 73 61 = some (.aload_n 0) := by decide +kernel
theorem i73_62 : xIns xg 73 62 = some (.iload_n 1) := by decide +kernel
theorem i73_63 : xIns xg 73 63 = some (.bipush 64) := by decide +kernel
theorem i73_65 : xIns xg 73 65 = some (.imul) := by decide +kernel
theorem i73_66 : xIns xg 73 66 = some (.newarray .long) := by decide +kernel
theorem i73_68 : xIns xg 73 68 = some (.putfield 39) := by decide +kernel
theorem p73_39 : xPut xg 73 39 = some (5, 7, (.array .long)) := by decide +kernel
theorem i73_71 : xIns xg 73 71 = some (.aload_n 0) := by decide +kernel
theorem i73_72 : xIns xg 73 72 = some (.iload_n 1) := by decide +kernel
theorem i73_73 : xIns xg 73 73 = some (.bipush 64) := by decide +kernel
theorem i73_75 : xIns xg 73 75 = some (.imul) := by decide +kernel
theorem i73_76 : xIns xg 73 76 = some (.newarray .byte) := by decide +kernel
theorem i73_78 : xIns xg 73 78 = some (.putfield 43) := by decide +kernel
theorem p73_43 : xPut xg 73 43 = some (5, 8, (.array .byte)) := by decide +kernel
theorem i73_81 : xIns xg 73 81 = some (.aload_n 0) := by decide +kernel
theorem i73_82 : xIns xg 73 82 = some (.iload_n 1) := by decide +kernel
theorem i73_83 : xIns xg 73 83 = some (.newarray .boolean) := by decide +kernel
theorem i73_85 : xIns xg 73 85 = some (.putfield 46) := by decide +kernel
theorem p73_46 : xPut xg 73 46 = some (5, 9, (.array .boolean)) := by decide +kernel
theorem i73_88 : xIns xg 73 88 = some (.aload_n 0) := by decide +kernel
theorem i73_89 : xIns xg 73 89 = some (.iload_n 1) := by decide +kernel
theorem i73_90 : xIns xg 73 90 = some (.newarray .int) := by decide +kernel
theorem i73_92 : xIns xg 73 92 = some (.putfield 49) := by decide +kernel
theorem p73_49 : xPut xg 73 49 = some (5, 10, (.array .int)) := by decide +kernel
theorem i73_95 : xIns xg 73 95 = some (.iconst 0) := by decide +kernel
theorem i73_96 : xIns xg 73 96 = some (.istore_n 2) := by decide +kernel
theorem i48_0 : xIns xg 48 0 = some (.aload_n 0) := by decide +kernel
theorem i48_1 : xIns xg 48 1 = some (.invokespecial 3) := by decide +kernel
theorem l48_3 : xMth xg 48 3 = some (6, 0, 0, 0) := by decide +kernel
theorem i48_4 : xIns xg 48 4 = some (.aload_n 0) := by decide +kernel
theorem i48_5 : xIns xg 48 5 = some (.iconst 0) := by decide +kernel
theorem i48_6 : xIns xg 48 6 = some (.putfield 9) := by decide +kernel
theorem p48_9 : xPut xg 48 9 = some (3, 2, .int) := by decide +kernel
theorem i48_9 : xIns xg 48 9 = some (.aload_n 0) := by decide +kernel
theorem i48_10 : xIns xg 48 10 = some (.iconst 0) := by decide +kernel
theorem i48_11 : xIns xg 48 11 = some (.putfield 15) := by decide +kernel
theorem p48_15 : xPut xg 48 15 = some (3, 3, .int) := by decide +kernel
theorem i48_14 : xIns xg 48 14 = some (.aload_n 0) := by decide +kernel
theorem i48_15 : xIns xg 48 15 = some (.lconst 0) := by decide +kernel
theorem i48_16 : xIns xg 48 16 = some (.putfield 18) := by decide +kernel
theorem p48_18 : xPut xg 48 18 = some (3, 4, .long) := by decide +kernel
theorem i48_19 : xIns xg 48 19 = some (.aload_n 0) := by decide +kernel
theorem i48_20 : xIns xg 48 20 = some (.aload_n 1) := by decide +kernel
theorem i48_21 : xIns xg 48 21 = some (.putfield 22) := by decide +kernel
theorem p48_22 : xPut xg 48 22 = some (3, 0, (.object "LateRows$Texts")) := by decide +kernel
theorem i48_24 : xIns xg 48 24 = some (.aload_n 0) := by decide +kernel
theorem i48_25 : xIns xg 48 25 = some (.aload_n 2) := by decide +kernel
theorem i48_26 : xIns xg 48 26 = some (.putfield 26) := by decide +kernel
theorem p48_26 : xPut xg 48 26 = some (3, 1, (.object "LateRows$Told")) := by decide +kernel
theorem i48_29 : xIns xg 48 29 = some (.return_) := by decide +kernel
theorem m48 : (xMet xg 48).2.2 = (3, none) := by decide +kernel
theorem i32_0 : xIns xg 32 0 = some (.aload_n 0) := by decide +kernel
theorem i32_1 : xIns xg 32 1 = some (.invokespecial 3) := by decide +kernel
theorem l32_3 : xMth xg 32 3 = some (6, 0, 0, 0) := by decide +kernel
theorem i32_4 : xIns xg 32 4 = some (.aload_n 0) := by decide +kernel
theorem i32_5 : xIns xg 32 5 = some (.iconst 4) := by decide +kernel
theorem i32_6 : xIns xg 32 6 = some (.newarray .int) := by decide +kernel
theorem i32_8 : xIns xg 32 8 = some (.putfield 9) := by decide +kernel
theorem p32_9 : xPut xg 32 9 = some (2, 0, (.array .int)) := by decide +kernel
theorem i32_11 : xIns xg 32 11 = some (.aload_n 0) := by decide +kernel
theorem i32_12 : xIns xg 32 12 = some (.iconst 4) := by decide +kernel
theorem i32_13 : xIns xg 32 13 = some (.newarray .int) := by decide +kernel
theorem i32_15 : xIns xg 32 15 = some (.putfield 15) := by decide +kernel
theorem p32_15 : xPut xg 32 15 = some (2, 1, (.array .int)) := by decide +kernel
theorem i32_18 : xIns xg 32 18 = some (.aload_n 0) := by decide +kernel
theorem i32_19 : xIns xg 32 19 = some (.sipush 160) := by decide +kernel
theorem i32_22 : xIns xg 32 22 = some (.newarray .long) := by decide +kernel
theorem i32_24 : xIns xg 32 24 = some (.putfield 18) := by decide +kernel
theorem p32_18 : xPut xg 32 18 = some (2, 2, (.array .long)) := by decide +kernel
theorem i32_27 : xIns xg 32 27 = some (.iconst 0) := by decide +kernel
theorem i32_28 : xIns xg 32 28 = some (.istore_n 1) := by decide +kernel
theorem m32 : (xMet xg 32).2.2 = (2, none) := by decide +kernel
theorem i32_29 : xIns xg 32 29 = some (.iload_n 1) := by decide +kernel
theorem i32_30 : xIns xg 32 30 = some (.iconst 4) := by decide +kernel
theorem i32_31 : xIns xg 32 31 = some (.if_icmp .ge 16) := by decide +kernel
theorem i32_34 : xIns xg 32 34 = some (.aload_n 0) := by decide +kernel
theorem i32_35 : xIns xg 32 35 = some (.getfield 9) := by decide +kernel
theorem f32_9 : xFld xg 32 9 = some (2, 0) := by decide +kernel
theorem i32_38 : xIns xg 32 38 = some (.iload_n 1) := by decide +kernel
theorem i32_39 : xIns xg 32 39 = some (.iconst (-1)) := by decide +kernel
theorem i32_40 : xIns xg 32 40 = some (.iastore) := by decide +kernel
theorem i32_41 : xIns xg 32 41 = some (.iinc 1 1) := by decide +kernel
theorem i32_44 : xIns xg 32 44 = some (.goto (-15)) := by decide +kernel
theorem i32_47 : xIns xg 32 47 = some (.return_) := by decide +kernel
theorem i93_0 : xIns xg 93 0 = some (.aload_n 0) := by decide +kernel
theorem i93_1 : xIns xg 93 1 = some (.invokespecial 1) := by decide +kernel
theorem l93_1 : xMth xg 93 1 = some (6, 0, 0, 0) := by decide +kernel
theorem i93_4 : xIns xg 93 4 = some (.aload_n 0) := by decide +kernel
theorem i93_5 : xIns xg 93 5 = some (.new 7) := by decide +kernel
theorem n93_7 : xCls xg 93 7 = some 1 := by decide +kernel
theorem i93_8 : xIns xg 93 8 = some (.dup) := by decide +kernel
theorem i93_9 : xIns xg 93 9 = some (.invokespecial 9) := by decide +kernel
theorem l93_9 : xMth xg 93 9 = some (5, 17, 1, 1) := by decide +kernel
theorem i93_12 : xIns xg 93 12 = some (.putfield 10) := by decide +kernel
theorem p93_10 : xPut xg 93 10 = some (6, 0, (.object "LateRows$Reader")) := by decide +kernel
theorem i93_15 : xIns xg 93 15 = some (.aload_n 0) := by decide +kernel
theorem i93_16 : xIns xg 93 16 = some (.new 16) := by decide +kernel
theorem n93_16 : xCls xg 93 16 = some 0 := by decide +kernel
theorem i93_19 : xIns xg 93 19 = some (.dup) := by decide +kernel
theorem i93_20 : xIns xg 93 20 = some (.invokespecial 18) := by decide +kernel
theorem l93_18 : xMth xg 93 18 = some (5, 6, 1, 0) := by decide +kernel
theorem i93_23 : xIns xg 93 23 = some (.putfield 19) := by decide +kernel
theorem p93_19 : xPut xg 93 19 = some (6, 1, (.object "LateRows$Printer")) := by decide +kernel
theorem i93_26 : xIns xg 93 26 = some (.aload_n 0) := by decide +kernel
theorem i93_27 : xIns xg 93 27 = some (.new 23) := by decide +kernel
theorem n93_23 : xCls xg 93 23 = some 4 := by decide +kernel
theorem i93_30 : xIns xg 93 30 = some (.dup) := by decide +kernel
theorem i93_31 : xIns xg 93 31 = some (.bipush 8) := by decide +kernel
theorem i93_33 : xIns xg 93 33 = some (.invokespecial 25) := by decide +kernel
theorem l93_25 : xMth xg 93 25 = some (4, 66, 2, 4) := by decide +kernel
theorem i93_36 : xIns xg 93 36 = some (.putfield 28) := by decide +kernel
theorem p93_28 : xPut xg 93 28 = some (6, 2, (.object "LateRows$Texts")) := by decide +kernel
theorem i93_39 : xIns xg 93 39 = some (.aload_n 0) := by decide +kernel
theorem i93_40 : xIns xg 93 40 = some (.new 32) := by decide +kernel
theorem n93_32 : xCls xg 93 32 = some 5 := by decide +kernel
theorem i93_43 : xIns xg 93 43 = some (.dup) := by decide +kernel
theorem i93_44 : xIns xg 93 44 = some (.sipush 192) := by decide +kernel
theorem i93_47 : xIns xg 93 47 = some (.invokespecial 34) := by decide +kernel
theorem l93_34 : xMth xg 93 34 = some (4, 73, 2, 5) := by decide +kernel
theorem i93_50 : xIns xg 93 50 = some (.putfield 35) := by decide +kernel
theorem p93_35 : xPut xg 93 35 = some (6, 3, (.object "LateRows$Told")) := by decide +kernel
theorem i93_53 : xIns xg 93 53 = some (.aload_n 0) := by decide +kernel
theorem i93_54 : xIns xg 93 54 = some (.new 32) := by decide +kernel
theorem i93_57 : xIns xg 93 57 = some (.dup) := by decide +kernel
theorem i93_58 : xIns xg 93 58 = some (.sipush 192) := by decide +kernel
theorem i93_61 : xIns xg 93 61 = some (.invokespecial 34) := by decide +kernel
theorem i93_64 : xIns xg 93 64 = some (.putfield 39) := by decide +kernel
theorem p93_39 : xPut xg 93 39 = some (6, 4, (.object "LateRows$Told")) := by decide +kernel
theorem i93_67 : xIns xg 93 67 = some (.aload_n 0) := by decide +kernel
theorem i93_68 : xIns xg 93 68 = some (.new 42) := by decide +kernel
theorem n93_42 : xCls xg 93 42 = some 3 := by decide +kernel
theorem i93_71 : xIns xg 93 71 = some (.dup) := by decide +kernel
theorem i93_72 : xIns xg 93 72 = some (.aload_n 0) := by decide +kernel
theorem i93_73 : xIns xg 93 73 = some (.getfield 28) := by decide +kernel
theorem f93_28 : xFld xg 93 28 = some (6, 2) := by decide +kernel
theorem i93_76 : xIns xg 93 76 = some (.aload_n 0) := by decide +kernel
theorem i93_77 : xIns xg 93 77 = some (.getfield 35) := by decide +kernel
theorem f93_35 : xFld xg 93 35 = some (6, 3) := by decide +kernel
theorem i93_80 : xIns xg 93 80 = some (.invokespecial 44) := by decide +kernel
theorem l93_44 : xMth xg 93 44 = some (4, 48, 3, 3) := by decide +kernel
theorem i93_83 : xIns xg 93 83 = some (.putfield 47) := by decide +kernel
theorem p93_47 : xPut xg 93 47 = some (6, 5, (.object "LateRows$Teller")) := by decide +kernel
theorem i93_86 : xIns xg 93 86 = some (.aload_n 0) := by decide +kernel
theorem i93_87 : xIns xg 93 87 = some (.new 51) := by decide +kernel
theorem n93_51 : xCls xg 93 51 = some 2 := by decide +kernel
theorem i93_90 : xIns xg 93 90 = some (.dup) := by decide +kernel
theorem i93_91 : xIns xg 93 91 = some (.invokespecial 53) := by decide +kernel
theorem l93_53 : xMth xg 93 53 = some (4, 32, 1, 2) := by decide +kernel
theorem i93_94 : xIns xg 93 94 = some (.putfield 54) := by decide +kernel
theorem p93_54 : xPut xg 93 54 = some (6, 6, (.object "LateRows$Sheets")) := by decide +kernel
theorem i93_97 : xIns xg 93 97 = some (.aload_n 0) := by decide +kernel
theorem i93_98 : xIns xg 93 98 = some (.bipush 16) := by decide +kernel
theorem i93_100 : xIns xg 93 100 = some (.newarray .long) := by decide +kernel
theorem i93_102 : xIns xg 93 102 = some (.putfield 58) := by decide +kernel
theorem p93_58 : xPut xg 93 58 = some (6, 7, (.array .long)) := by decide +kernel
theorem i93_105 : xIns xg 93 105 = some (.aload_n 0) := by decide +kernel
theorem i93_106 : xIns xg 93 106 = some (.new 23) := by decide +kernel
theorem i93_109 : xIns xg 93 109 = some (.dup) := by decide +kernel
theorem i93_110 : xIns xg 93 110 = some (.bipush 8) := by decide +kernel
theorem i93_112 : xIns xg 93 112 = some (.invokespecial 25) := by decide +kernel
theorem i93_115 : xIns xg 93 115 = some (.putfield 62) := by decide +kernel
theorem p93_62 : xPut xg 93 62 = some (6, 8, (.object "LateRows$Texts")) := by decide +kernel
theorem i93_118 : xIns xg 93 118 = some (.aload_n 0) := by decide +kernel
theorem i93_119 : xIns xg 93 119 = some (.new 32) := by decide +kernel
theorem i93_122 : xIns xg 93 122 = some (.dup) := by decide +kernel
theorem i93_123 : xIns xg 93 123 = some (.sipush 192) := by decide +kernel
theorem i93_126 : xIns xg 93 126 = some (.invokespecial 34) := by decide +kernel
theorem i93_129 : xIns xg 93 129 = some (.putfield 65) := by decide +kernel
theorem p93_65 : xPut xg 93 65 = some (6, 9, (.object "LateRows$Told")) := by decide +kernel
theorem i93_132 : xIns xg 93 132 = some (.aload_n 0) := by decide +kernel
theorem i93_133 : xIns xg 93 133 = some (.bipush 99) := by decide +kernel
theorem i93_135 : xIns xg 93 135 = some (.putfield 68) := by decide +kernel
theorem p93_68 : xPut xg 93 68 = some (6, 10, .int) := by decide +kernel
theorem i93_138 : xIns xg 93 138 = some (.aload_n 0) := by decide +kernel
theorem i93_139 : xIns xg 93 139 = some (.iconst 0) := by decide +kernel
theorem i93_140 : xIns xg 93 140 = some (.putfield 72) := by decide +kernel
theorem p93_72 : xPut xg 93 72 = some (6, 11, .boolean) := by decide +kernel
theorem i93_143 : xIns xg 93 143 = some (.aload_n 0) := by decide +kernel
theorem i93_144 : xIns xg 93 144 = some (.bipush 99) := by decide +kernel
theorem i93_146 : xIns xg 93 146 = some (.putfield 76) := by decide +kernel
theorem p93_76 : xPut xg 93 76 = some (6, 12, .int) := by decide +kernel
theorem i93_149 : xIns xg 93 149 = some (.aload_n 0) := by decide +kernel
theorem i93_150 : xIns xg 93 150 = some (.iconst 0) := by decide +kernel
theorem i93_151 : xIns xg 93 151 = some (.putfield 79) := by decide +kernel
theorem p93_79 : xPut xg 93 79 = some (6, 13, .int) := by decide +kernel
theorem i93_154 : xIns xg 93 154 = some (.return_) := by decide +kernel
theorem m93 : (xMet xg 93).2.2 = (1, none) := by decide +kernel
def xOne : Nat → Int32 := fun j => if j < 192 then 1 else 0
/-- Told's last loop: the row is filled with 1 -/
theorem told_fill {sc : xS} {d : Nat} {Q : xR → Prop} (o g : Nat) (fs : List Value) (hf : fs[2]? = some (.ref g)) (hog : g ≠ o) : ∀ (n i : Nat) (v : Int32) (h : xH) (f : Nat → Int32), i + n = 192 → v = nI i → h[o]? = some (.inr (5, fs)) → h[g]? = some (.inl (.int, 192, .inl f)) → (∀ j, j < i → f j = 1) → (∀ j, i ≤ j → f j = 0) →
    xT xg sc d 73 115 [(2, .int 192), (0, .ref o), (1, .int 192)] [] (h.set g (.inl (.int, 192, .inl xOne))) Q → xT xg sc d 73 97 [(2, .int v), (0, .ref o), (1, .int 192)] [] h Q := by
  intro n
  induction n with
  | zero =>
    intro i v h f hi hv ho hg h1 h0 k
    obtain rfl : i = 192 := by omega
    have hv : v = 192 := hv
    subst hv
    have hfe : f = xOne := by
      funext j
      unfold xOne
      by_cases hj : j < 192
      · rw [if_pos hj, h1 j hj]
      · rw [if_neg hj, h0 j (by omega)]
    subst hfe
    rw [xset_self hg] at k
    refine wLin 98 i73_97 rfl rfl ?_
    refine wLin 99 i73_98 rfl rfl ?_
    refine wCT 115 i73_99 rfl (by decide) ?_
    exact k
  | succ n ih =>
    intro i v h f hi hv ho hg h1 h0 k
    have hi2 : i < 192 := by omega
    subst hv
    refine wLin 98 i73_97 rfl rfl ?_
    refine wLin 99 i73_98 rfl rfl ?_
    refine wCF 115 102 i73_99 rfl (decide_eq_false (by exact nI_ge (a := i) (b := 192) hi2 (by decide))) rfl ?_
    refine wLan 103 i73_102 rfl rfl ?_
    refine wGet 106 (.ref g) i73_103 f73_22 ho hf rfl ?_
    refine wLin 107 i73_106 rfl rfl ?_
    refine wK 108 1 i73_107 (by decide) rfl ?_
    refine wIas 109 i73_108 hg (xinb hi2 (by decide)) rfl ?_
    refine wInc 112 [(2, .int (nI (i + 1))), (0, .ref o), (1, .int 192)] (nI (i + 1)) i73_109 m73 (by decide) rfl (nI_1 i) rfl rfl ?_
    refine wGo 97 i73_112 rfl ?_
    rw [nI_clamp (by omega)]
    refine ih (i + 1) (nI (i + 1)) _ (upd f i 1) (by omega) rfl (by rw [xset_ne hog]; exact ho) (xset_get hg) (fun j hj => ?_) (fun j hj => ?_) (by rw [List.set_set]; exact k)
    · by_cases hji : j = i
      · subst hji; exact pk_us
      · rw [pk_un hji]; exact h1 j (by omega)
    · rw [pk_un (by omega)]; exact h0 j (by omega)
set_option maxHeartbeats 4000000 in
set_option maxRecDepth 100000 in
theorem k_Texts_2 {sc : xS} {d : Nat} (c0 c1 : xE) : xT xg sc (d + 1) 66 0 [(0, .ref 2), (1, .int 1)] [] [c0, c1, .inr (4, [.null, .null, .null, .null, .null, .null, .null, .null])] (fun r => r = (none, [c0, c1, .inr (4, [.ref 3, .ref 4, .ref 5, .ref 6, .ref 7, .ref 8, .ref 9, .ref 10]), (xI 1), (xI 24), (xI 24), (xI 24), (xI 24), (xI 24), (xI 24), (xJ 192)], 8, 337)) := by
  refine wLan 1 i66_0 rfl rfl ?_
  refine tObj i66_1 l66_3 (by decide) ?_
  refine wLin 5 i66_4 rfl rfl ?_
  refine wKb 7 24 i66_5 (by decide) rfl ?_
  refine wA 8 i66_7 rfl rfl rfl ?_
  refine tTop (v := 24) (by decide) ?_
  refine wSin 9 [(2, .int 24), (0, .ref 2), (1, .int 1)] i66_8 m66 (by decide) rfl rfl ?_
  refine wLan 10 i66_9 rfl rfl ?_
  refine wLin 11 i66_10 rfl rfl ?_
  refine eNewA (n := 3) (N := 1) (c := (xI 1)) 8 337 7 336 i66_11 (by decide) (by decide) rfl rfl rfl rfl ?_
  refine tHeap (h' := [c0, c1, .inr (4, [.null, .null, .null, .null, .null, .null, .null, .null]), (xI 1)]) rfl ?_
  refine wPut 16 i66_13 p66_9 rfl (by decide) rfl rfl rfl ?_
  refine tHeap (h' := [c0, c1, .inr (4, [.ref 3, .null, .null, .null, .null, .null, .null, .null]), (xI 1)]) rfl ?_
  refine wLan 17 i66_16 rfl rfl ?_
  refine wLin 18 i66_17 rfl rfl ?_
  refine eNewA (n := 4) (N := 24) (c := (xI 24)) 7 336 6 312 i66_18 (by decide) (by decide) rfl rfl rfl rfl ?_
  refine tHeap (h' := [c0, c1, .inr (4, [.ref 3, .null, .null, .null, .null, .null, .null, .null]), (xI 1), (xI 24)]) rfl ?_
  refine wPut 23 i66_20 p66_15 rfl (by decide) rfl rfl rfl ?_
  refine tHeap (h' := [c0, c1, .inr (4, [.ref 3, .ref 4, .null, .null, .null, .null, .null, .null]), (xI 1), (xI 24)]) rfl ?_
  refine wLan 24 i66_23 rfl rfl ?_
  refine wLin 25 i66_24 rfl rfl ?_
  refine eNewA (n := 5) (N := 24) (c := (xI 24)) 6 312 5 288 i66_25 (by decide) (by decide) rfl rfl rfl rfl ?_
  refine tHeap (h' := [c0, c1, .inr (4, [.ref 3, .ref 4, .null, .null, .null, .null, .null, .null]), (xI 1), (xI 24), (xI 24)]) rfl ?_
  refine wPut 30 i66_27 p66_18 rfl (by decide) rfl rfl rfl ?_
  refine tHeap (h' := [c0, c1, .inr (4, [.ref 3, .ref 4, .ref 5, .null, .null, .null, .null, .null]), (xI 1), (xI 24), (xI 24)]) rfl ?_
  refine wLan 31 i66_30 rfl rfl ?_
  refine wLin 32 i66_31 rfl rfl ?_
  refine eNewA (n := 6) (N := 24) (c := (xI 24)) 5 288 4 264 i66_32 (by decide) (by decide) rfl rfl rfl rfl ?_
  refine tHeap (h' := [c0, c1, .inr (4, [.ref 3, .ref 4, .ref 5, .null, .null, .null, .null, .null]), (xI 1), (xI 24), (xI 24), (xI 24)]) rfl ?_
  refine wPut 37 i66_34 p66_21 rfl (by decide) rfl rfl rfl ?_
  refine tHeap (h' := [c0, c1, .inr (4, [.ref 3, .ref 4, .ref 5, .ref 6, .null, .null, .null, .null]), (xI 1), (xI 24), (xI 24), (xI 24)]) rfl ?_
  refine wLan 38 i66_37 rfl rfl ?_
  refine wLin 39 i66_38 rfl rfl ?_
  refine eNewA (n := 7) (N := 24) (c := (xI 24)) 4 264 3 240 i66_39 (by decide) (by decide) rfl rfl rfl rfl ?_
  refine tHeap (h' := [c0, c1, .inr (4, [.ref 3, .ref 4, .ref 5, .ref 6, .null, .null, .null, .null]), (xI 1), (xI 24), (xI 24), (xI 24), (xI 24)]) rfl ?_
  refine wPut 44 i66_41 p66_24 rfl (by decide) rfl rfl rfl ?_
  refine tHeap (h' := [c0, c1, .inr (4, [.ref 3, .ref 4, .ref 5, .ref 6, .ref 7, .null, .null, .null]), (xI 1), (xI 24), (xI 24), (xI 24), (xI 24)]) rfl ?_
  refine wLan 45 i66_44 rfl rfl ?_
  refine wLin 46 i66_45 rfl rfl ?_
  refine eNewA (n := 8) (N := 24) (c := (xI 24)) 3 240 2 216 i66_46 (by decide) (by decide) rfl rfl rfl rfl ?_
  refine tHeap (h' := [c0, c1, .inr (4, [.ref 3, .ref 4, .ref 5, .ref 6, .ref 7, .null, .null, .null]), (xI 1), (xI 24), (xI 24), (xI 24), (xI 24), (xI 24)]) rfl ?_
  refine wPut 51 i66_48 p66_27 rfl (by decide) rfl rfl rfl ?_
  refine tHeap (h' := [c0, c1, .inr (4, [.ref 3, .ref 4, .ref 5, .ref 6, .ref 7, .ref 8, .null, .null]), (xI 1), (xI 24), (xI 24), (xI 24), (xI 24), (xI 24)]) rfl ?_
  refine wLan 52 i66_51 rfl rfl ?_
  refine wLin 53 i66_52 rfl rfl ?_
  refine eNewA (n := 9) (N := 24) (c := (xI 24)) 2 216 1 192 i66_53 (by decide) (by decide) rfl rfl rfl rfl ?_
  refine tHeap (h' := [c0, c1, .inr (4, [.ref 3, .ref 4, .ref 5, .ref 6, .ref 7, .ref 8, .null, .null]), (xI 1), (xI 24), (xI 24), (xI 24), (xI 24), (xI 24), (xI 24)]) rfl ?_
  refine wPut 58 i66_55 p66_30 rfl (by decide) rfl rfl rfl ?_
  refine tHeap (h' := [c0, c1, .inr (4, [.ref 3, .ref 4, .ref 5, .ref 6, .ref 7, .ref 8, .ref 9, .null]), (xI 1), (xI 24), (xI 24), (xI 24), (xI 24), (xI 24), (xI 24)]) rfl ?_
  refine wLan 59 i66_58 rfl rfl ?_
  refine wLin 60 i66_59 rfl rfl ?_
  refine wKb 62 8 i66_60 (by decide) rfl ?_
  refine wA 63 i66_62 rfl rfl rfl ?_
  refine tTop (v := 192) (by decide) ?_
  refine eNewA (n := 10) (N := 192) (c := (xJ 192)) 1 192 0 0 i66_63 (by decide) (by decide) rfl rfl rfl rfl ?_
  refine tHeap (h' := [c0, c1, .inr (4, [.ref 3, .ref 4, .ref 5, .ref 6, .ref 7, .ref 8, .ref 9, .null]), (xI 1), (xI 24), (xI 24), (xI 24), (xI 24), (xI 24), (xI 24), (xJ 192)]) rfl ?_
  refine wPut 68 i66_65 p66_33 rfl (by decide) rfl rfl rfl ?_
  refine tHeap (h' := [c0, c1, .inr (4, [.ref 3, .ref 4, .ref 5, .ref 6, .ref 7, .ref 8, .ref 9, .ref 10]), (xI 1), (xI 24), (xI 24), (xI 24), (xI 24), (xI 24), (xI 24), (xJ 192)]) rfl ?_
  refine wR0 i66_68 m66 ?_
  exact rfl
set_option maxHeartbeats 4000000 in
set_option maxRecDepth 100000 in
theorem k_Reader_1 {sc : xS} {d : Nat} (c0 : xE) : xT xg sc (d + 2) 17 0 [(0, .ref 1)] [] [c0, .inr (1, [.null, .int 0, .null, .null, .null, .null, .int 0, .int 0])] (fun r => r = (none, [c0, .inr (1, [.ref 2, .int 0, .ref 11, .ref 12, .ref 13, .ref 14, .int 0, .int (-1)]), .inr (4, [.ref 3, .ref 4, .ref 5, .ref 6, .ref 7, .ref 8, .ref 9, .ref 10]), (xI 1), (xI 24), (xI 24), (xI 24), (xI 24), (xI 24), (xI 24), (xJ 192), (xI 120), (xI 121), (xI 121), (xI 121)], 13, 828)) := by
  refine wLan 1 i17_0 rfl rfl ?_
  refine tObj i17_1 l17_3 (by decide) ?_
  refine wLan 5 i17_4 rfl rfl ?_
  refine eNew (n := 2) (N := 8) 13 828 12 820 i17_5 n17_9 rfl rfl rfl rfl ?_
  refine tHeap (h' := [c0, .inr (1, [.null, .int 0, .null, .null, .null, .null, .int 0, .int 0]), .inr (4, [.null, .null, .null, .null, .null, .null, .null, .null])]) rfl ?_
  refine wD 9 i17_8 rfl rfl rfl ?_
  refine wK 10 1 i17_9 (by decide) rfl ?_
  refine eCallV 13 [.ref 2, .int 1] [.ref 2, .ref 1] 12 820 4 483 i17_10 rfl (xlk4 l17_11) (Or.inr (Or.inr (Or.inl rfl))) m66 rfl rfl (by decide) (by decide) (by decide) rfl rfl (k_Texts_2 _ _) rfl rfl ?_
  refine wPut 16 i17_13 p17_14 rfl (by decide) rfl rfl rfl ?_
  refine tHeap (h' := [c0, .inr (1, [.ref 2, .int 0, .null, .null, .null, .null, .int 0, .int 0]), .inr (4, [.ref 3, .ref 4, .ref 5, .ref 6, .ref 7, .ref 8, .ref 9, .ref 10]), (xI 1), (xI 24), (xI 24), (xI 24), (xI 24), (xI 24), (xI 24), (xJ 192)]) rfl ?_
  refine wLan 17 i17_16 rfl rfl ?_
  refine wK 18 0 i17_17 (by decide) rfl ?_
  refine wPut 21 i17_18 p17_20 rfl (by decide) rfl rfl rfl ?_
  refine tHeap (h' := [c0, .inr (1, [.ref 2, .int 0, .null, .null, .null, .null, .int 0, .int 0]), .inr (4, [.ref 3, .ref 4, .ref 5, .ref 6, .ref 7, .ref 8, .ref 9, .ref 10]), (xI 1), (xI 24), (xI 24), (xI 24), (xI 24), (xI 24), (xI 24), (xJ 192)]) rfl ?_
  refine wLan 22 i17_21 rfl rfl ?_
  refine wKb 24 120 i17_22 (by decide) rfl ?_
  refine eNewA (n := 11) (N := 120) (c := (xI 120)) 4 483 3 363 i17_24 (by decide) (by decide) rfl rfl rfl rfl ?_
  refine tHeap (h' := [c0, .inr (1, [.ref 2, .int 0, .null, .null, .null, .null, .int 0, .int 0]), .inr (4, [.ref 3, .ref 4, .ref 5, .ref 6, .ref 7, .ref 8, .ref 9, .ref 10]), (xI 1), (xI 24), (xI 24), (xI 24), (xI 24), (xI 24), (xI 24), (xJ 192), (xI 120)]) rfl ?_
  refine wPut 29 i17_26 p17_24 rfl (by decide) rfl rfl rfl ?_
  refine tHeap (h' := [c0, .inr (1, [.ref 2, .int 0, .ref 11, .null, .null, .null, .int 0, .int 0]), .inr (4, [.ref 3, .ref 4, .ref 5, .ref 6, .ref 7, .ref 8, .ref 9, .ref 10]), (xI 1), (xI 24), (xI 24), (xI 24), (xI 24), (xI 24), (xI 24), (xJ 192), (xI 120)]) rfl ?_
  refine wLan 30 i17_29 rfl rfl ?_
  refine wKb 32 121 i17_30 (by decide) rfl ?_
  refine eNewA (n := 12) (N := 121) (c := (xI 121)) 3 363 2 242 i17_32 (by decide) (by decide) rfl rfl rfl rfl ?_
  refine tHeap (h' := [c0, .inr (1, [.ref 2, .int 0, .ref 11, .null, .null, .null, .int 0, .int 0]), .inr (4, [.ref 3, .ref 4, .ref 5, .ref 6, .ref 7, .ref 8, .ref 9, .ref 10]), (xI 1), (xI 24), (xI 24), (xI 24), (xI 24), (xI 24), (xI 24), (xJ 192), (xI 120), (xI 121)]) rfl ?_
  refine wPut 37 i17_34 p17_28 rfl (by decide) rfl rfl rfl ?_
  refine tHeap (h' := [c0, .inr (1, [.ref 2, .int 0, .ref 11, .ref 12, .null, .null, .int 0, .int 0]), .inr (4, [.ref 3, .ref 4, .ref 5, .ref 6, .ref 7, .ref 8, .ref 9, .ref 10]), (xI 1), (xI 24), (xI 24), (xI 24), (xI 24), (xI 24), (xI 24), (xJ 192), (xI 120), (xI 121)]) rfl ?_
  refine wLan 38 i17_37 rfl rfl ?_
  refine wKb 40 121 i17_38 (by decide) rfl ?_
  refine eNewA (n := 13) (N := 121) (c := (xI 121)) 2 242 1 121 i17_40 (by decide) (by decide) rfl rfl rfl rfl ?_
  refine tHeap (h' := [c0, .inr (1, [.ref 2, .int 0, .ref 11, .ref 12, .null, .null, .int 0, .int 0]), .inr (4, [.ref 3, .ref 4, .ref 5, .ref 6, .ref 7, .ref 8, .ref 9, .ref 10]), (xI 1), (xI 24), (xI 24), (xI 24), (xI 24), (xI 24), (xI 24), (xJ 192), (xI 120), (xI 121), (xI 121)]) rfl ?_
  refine wPut 45 i17_42 p17_31 rfl (by decide) rfl rfl rfl ?_
  refine tHeap (h' := [c0, .inr (1, [.ref 2, .int 0, .ref 11, .ref 12, .ref 13, .null, .int 0, .int 0]), .inr (4, [.ref 3, .ref 4, .ref 5, .ref 6, .ref 7, .ref 8, .ref 9, .ref 10]), (xI 1), (xI 24), (xI 24), (xI 24), (xI 24), (xI 24), (xI 24), (xJ 192), (xI 120), (xI 121), (xI 121)]) rfl ?_
  refine wLan 46 i17_45 rfl rfl ?_
  refine wKb 48 121 i17_46 (by decide) rfl ?_
  refine eNewA (n := 14) (N := 121) (c := (xI 121)) 1 121 0 0 i17_48 (by decide) (by decide) rfl rfl rfl rfl ?_
  refine tHeap (h' := [c0, .inr (1, [.ref 2, .int 0, .ref 11, .ref 12, .ref 13, .null, .int 0, .int 0]), .inr (4, [.ref 3, .ref 4, .ref 5, .ref 6, .ref 7, .ref 8, .ref 9, .ref 10]), (xI 1), (xI 24), (xI 24), (xI 24), (xI 24), (xI 24), (xI 24), (xJ 192), (xI 120), (xI 121), (xI 121), (xI 121)]) rfl ?_
  refine wPut 53 i17_50 p17_34 rfl (by decide) rfl rfl rfl ?_
  refine tHeap (h' := [c0, .inr (1, [.ref 2, .int 0, .ref 11, .ref 12, .ref 13, .ref 14, .int 0, .int 0]), .inr (4, [.ref 3, .ref 4, .ref 5, .ref 6, .ref 7, .ref 8, .ref 9, .ref 10]), (xI 1), (xI 24), (xI 24), (xI 24), (xI 24), (xI 24), (xI 24), (xJ 192), (xI 120), (xI 121), (xI 121), (xI 121)]) rfl ?_
  refine wLan 54 i17_53 rfl rfl ?_
  refine wK 55 0 i17_54 (by decide) rfl ?_
  refine wPut 58 i17_55 p17_37 rfl (by decide) rfl rfl rfl ?_
  refine tHeap (h' := [c0, .inr (1, [.ref 2, .int 0, .ref 11, .ref 12, .ref 13, .ref 14, .int 0, .int 0]), .inr (4, [.ref 3, .ref 4, .ref 5, .ref 6, .ref 7, .ref 8, .ref 9, .ref 10]), (xI 1), (xI 24), (xI 24), (xI 24), (xI 24), (xI 24), (xI 24), (xJ 192), (xI 120), (xI 121), (xI 121), (xI 121)]) rfl ?_
  refine wLan 59 i17_58 rfl rfl ?_
  refine wK 60 (-1) i17_59 (by decide) rfl ?_
  refine wPut 63 i17_60 p17_40 rfl (by decide) rfl rfl rfl ?_
  refine tHeap (h' := [c0, .inr (1, [.ref 2, .int 0, .ref 11, .ref 12, .ref 13, .ref 14, .int 0, .int (-1)]), .inr (4, [.ref 3, .ref 4, .ref 5, .ref 6, .ref 7, .ref 8, .ref 9, .ref 10]), (xI 1), (xI 24), (xI 24), (xI 24), (xI 24), (xI 24), (xI 24), (xJ 192), (xI 120), (xI 121), (xI 121), (xI 121)]) rfl ?_
  refine wR0 i17_63 m17 ?_
  exact rfl
set_option maxHeartbeats 4000000 in
set_option maxRecDepth 100000 in
theorem k_Printer {sc : xS} {d : Nat} (c0 c1 c2 c3 c4 c5 c6 c7 c8 c9 c10 c11 c12 c13 c14 : xE) : xT xg sc (d + 1) 6 0 [(0, .ref 15)] [] [c0, c1, c2, c3, c4, c5, c6, c7, c8, c9, c10, c11, c12, c13, c14, .inr (0, [.null, .int 0])] (fun r => r = (none, [c0, c1, c2, c3, c4, c5, c6, c7, c8, c9, c10, c11, c12, c13, c14, .inr (0, [.ref 16, .int 0]), (xI 1024)], 1, 1024)) := by
  refine wLan 1 i6_0 rfl rfl ?_
  refine tObj i6_1 l6_3 (by decide) ?_
  refine wLan 5 i6_4 rfl rfl ?_
  refine wKs 8 1024 i6_5 (by decide) rfl ?_
  refine eNewA (n := 16) (N := 1024) (c := (xI 1024)) 1 1024 0 0 i6_8 (by decide) (by decide) rfl rfl rfl rfl ?_
  refine tHeap (h' := [c0, c1, c2, c3, c4, c5, c6, c7, c8, c9, c10, c11, c12, c13, c14, .inr (0, [.null, .int 0]), (xI 1024)]) rfl ?_
  refine wPut 13 i6_10 p6_11 rfl (by decide) rfl rfl rfl ?_
  refine tHeap (h' := [c0, c1, c2, c3, c4, c5, c6, c7, c8, c9, c10, c11, c12, c13, c14, .inr (0, [.ref 16, .int 0]), (xI 1024)]) rfl ?_
  refine wLan 14 i6_13 rfl rfl ?_
  refine wK 15 0 i6_14 (by decide) rfl ?_
  refine wPut 18 i6_15 p6_15 rfl (by decide) rfl rfl rfl ?_
  refine tHeap (h' := [c0, c1, c2, c3, c4, c5, c6, c7, c8, c9, c10, c11, c12, c13, c14, .inr (0, [.ref 16, .int 0]), (xI 1024)]) rfl ?_
  refine wR0 i6_18 m6 ?_
  exact rfl
set_option maxHeartbeats 4000000 in
set_option maxRecDepth 100000 in
theorem k_Texts_a {sc : xS} {d : Nat} (c0 c1 c2 c3 c4 c5 c6 c7 c8 c9 c10 c11 c12 c13 c14 c15 c16 : xE) : xT xg sc (d + 1) 66 0 [(0, .ref 17), (1, .int 8)] [] [c0, c1, c2, c3, c4, c5, c6, c7, c8, c9, c10, c11, c12, c13, c14, c15, c16, .inr (4, [.null, .null, .null, .null, .null, .null, .null, .null])] (fun r => r = (none, [c0, c1, c2, c3, c4, c5, c6, c7, c8, c9, c10, c11, c12, c13, c14, c15, c16, .inr (4, [.ref 18, .ref 19, .ref 20, .ref 21, .ref 22, .ref 23, .ref 24, .ref 25]), (xI 8), (xI 192), (xI 192), (xI 192), (xI 192), (xI 192), (xI 192), (xJ 1536)], 8, 2696)) := by
  refine wLan 1 i66_0 rfl rfl ?_
  refine tObj i66_1 l66_3 (by decide) ?_
  refine wLin 5 i66_4 rfl rfl ?_
  refine wKb 7 24 i66_5 (by decide) rfl ?_
  refine wA 8 i66_7 rfl rfl rfl ?_
  refine tTop (v := 192) (by decide) ?_
  refine wSin 9 [(2, .int 192), (0, .ref 17), (1, .int 8)] i66_8 m66 (by decide) rfl rfl ?_
  refine wLan 10 i66_9 rfl rfl ?_
  refine wLin 11 i66_10 rfl rfl ?_
  refine eNewA (n := 18) (N := 8) (c := (xI 8)) 8 2696 7 2688 i66_11 (by decide) (by decide) rfl rfl rfl rfl ?_
  refine tHeap (h' := [c0, c1, c2, c3, c4, c5, c6, c7, c8, c9, c10, c11, c12, c13, c14, c15, c16, .inr (4, [.null, .null, .null, .null, .null, .null, .null, .null]), (xI 8)]) rfl ?_
  refine wPut 16 i66_13 p66_9 rfl (by decide) rfl rfl rfl ?_
  refine tHeap (h' := [c0, c1, c2, c3, c4, c5, c6, c7, c8, c9, c10, c11, c12, c13, c14, c15, c16, .inr (4, [.ref 18, .null, .null, .null, .null, .null, .null, .null]), (xI 8)]) rfl ?_
  refine wLan 17 i66_16 rfl rfl ?_
  refine wLin 18 i66_17 rfl rfl ?_
  refine eNewA (n := 19) (N := 192) (c := (xI 192)) 7 2688 6 2496 i66_18 (by decide) (by decide) rfl rfl rfl rfl ?_
  refine tHeap (h' := [c0, c1, c2, c3, c4, c5, c6, c7, c8, c9, c10, c11, c12, c13, c14, c15, c16, .inr (4, [.ref 18, .null, .null, .null, .null, .null, .null, .null]), (xI 8), (xI 192)]) rfl ?_
  refine wPut 23 i66_20 p66_15 rfl (by decide) rfl rfl rfl ?_
  refine tHeap (h' := [c0, c1, c2, c3, c4, c5, c6, c7, c8, c9, c10, c11, c12, c13, c14, c15, c16, .inr (4, [.ref 18, .ref 19, .null, .null, .null, .null, .null, .null]), (xI 8), (xI 192)]) rfl ?_
  refine wLan 24 i66_23 rfl rfl ?_
  refine wLin 25 i66_24 rfl rfl ?_
  refine eNewA (n := 20) (N := 192) (c := (xI 192)) 6 2496 5 2304 i66_25 (by decide) (by decide) rfl rfl rfl rfl ?_
  refine tHeap (h' := [c0, c1, c2, c3, c4, c5, c6, c7, c8, c9, c10, c11, c12, c13, c14, c15, c16, .inr (4, [.ref 18, .ref 19, .null, .null, .null, .null, .null, .null]), (xI 8), (xI 192), (xI 192)]) rfl ?_
  refine wPut 30 i66_27 p66_18 rfl (by decide) rfl rfl rfl ?_
  refine tHeap (h' := [c0, c1, c2, c3, c4, c5, c6, c7, c8, c9, c10, c11, c12, c13, c14, c15, c16, .inr (4, [.ref 18, .ref 19, .ref 20, .null, .null, .null, .null, .null]), (xI 8), (xI 192), (xI 192)]) rfl ?_
  refine wLan 31 i66_30 rfl rfl ?_
  refine wLin 32 i66_31 rfl rfl ?_
  refine eNewA (n := 21) (N := 192) (c := (xI 192)) 5 2304 4 2112 i66_32 (by decide) (by decide) rfl rfl rfl rfl ?_
  refine tHeap (h' := [c0, c1, c2, c3, c4, c5, c6, c7, c8, c9, c10, c11, c12, c13, c14, c15, c16, .inr (4, [.ref 18, .ref 19, .ref 20, .null, .null, .null, .null, .null]), (xI 8), (xI 192), (xI 192), (xI 192)]) rfl ?_
  refine wPut 37 i66_34 p66_21 rfl (by decide) rfl rfl rfl ?_
  refine tHeap (h' := [c0, c1, c2, c3, c4, c5, c6, c7, c8, c9, c10, c11, c12, c13, c14, c15, c16, .inr (4, [.ref 18, .ref 19, .ref 20, .ref 21, .null, .null, .null, .null]), (xI 8), (xI 192), (xI 192), (xI 192)]) rfl ?_
  refine wLan 38 i66_37 rfl rfl ?_
  refine wLin 39 i66_38 rfl rfl ?_
  refine eNewA (n := 22) (N := 192) (c := (xI 192)) 4 2112 3 1920 i66_39 (by decide) (by decide) rfl rfl rfl rfl ?_
  refine tHeap (h' := [c0, c1, c2, c3, c4, c5, c6, c7, c8, c9, c10, c11, c12, c13, c14, c15, c16, .inr (4, [.ref 18, .ref 19, .ref 20, .ref 21, .null, .null, .null, .null]), (xI 8), (xI 192), (xI 192), (xI 192), (xI 192)]) rfl ?_
  refine wPut 44 i66_41 p66_24 rfl (by decide) rfl rfl rfl ?_
  refine tHeap (h' := [c0, c1, c2, c3, c4, c5, c6, c7, c8, c9, c10, c11, c12, c13, c14, c15, c16, .inr (4, [.ref 18, .ref 19, .ref 20, .ref 21, .ref 22, .null, .null, .null]), (xI 8), (xI 192), (xI 192), (xI 192), (xI 192)]) rfl ?_
  refine wLan 45 i66_44 rfl rfl ?_
  refine wLin 46 i66_45 rfl rfl ?_
  refine eNewA (n := 23) (N := 192) (c := (xI 192)) 3 1920 2 1728 i66_46 (by decide) (by decide) rfl rfl rfl rfl ?_
  refine tHeap (h' := [c0, c1, c2, c3, c4, c5, c6, c7, c8, c9, c10, c11, c12, c13, c14, c15, c16, .inr (4, [.ref 18, .ref 19, .ref 20, .ref 21, .ref 22, .null, .null, .null]), (xI 8), (xI 192), (xI 192), (xI 192), (xI 192), (xI 192)]) rfl ?_
  refine wPut 51 i66_48 p66_27 rfl (by decide) rfl rfl rfl ?_
  refine tHeap (h' := [c0, c1, c2, c3, c4, c5, c6, c7, c8, c9, c10, c11, c12, c13, c14, c15, c16, .inr (4, [.ref 18, .ref 19, .ref 20, .ref 21, .ref 22, .ref 23, .null, .null]), (xI 8), (xI 192), (xI 192), (xI 192), (xI 192), (xI 192)]) rfl ?_
  refine wLan 52 i66_51 rfl rfl ?_
  refine wLin 53 i66_52 rfl rfl ?_
  refine eNewA (n := 24) (N := 192) (c := (xI 192)) 2 1728 1 1536 i66_53 (by decide) (by decide) rfl rfl rfl rfl ?_
  refine tHeap (h' := [c0, c1, c2, c3, c4, c5, c6, c7, c8, c9, c10, c11, c12, c13, c14, c15, c16, .inr (4, [.ref 18, .ref 19, .ref 20, .ref 21, .ref 22, .ref 23, .null, .null]), (xI 8), (xI 192), (xI 192), (xI 192), (xI 192), (xI 192), (xI 192)]) rfl ?_
  refine wPut 58 i66_55 p66_30 rfl (by decide) rfl rfl rfl ?_
  refine tHeap (h' := [c0, c1, c2, c3, c4, c5, c6, c7, c8, c9, c10, c11, c12, c13, c14, c15, c16, .inr (4, [.ref 18, .ref 19, .ref 20, .ref 21, .ref 22, .ref 23, .ref 24, .null]), (xI 8), (xI 192), (xI 192), (xI 192), (xI 192), (xI 192), (xI 192)]) rfl ?_
  refine wLan 59 i66_58 rfl rfl ?_
  refine wLin 60 i66_59 rfl rfl ?_
  refine wKb 62 8 i66_60 (by decide) rfl ?_
  refine wA 63 i66_62 rfl rfl rfl ?_
  refine tTop (v := 1536) (by decide) ?_
  refine eNewA (n := 25) (N := 1536) (c := (xJ 1536)) 1 1536 0 0 i66_63 (by decide) (by decide) rfl rfl rfl rfl ?_
  refine tHeap (h' := [c0, c1, c2, c3, c4, c5, c6, c7, c8, c9, c10, c11, c12, c13, c14, c15, c16, .inr (4, [.ref 18, .ref 19, .ref 20, .ref 21, .ref 22, .ref 23, .ref 24, .null]), (xI 8), (xI 192), (xI 192), (xI 192), (xI 192), (xI 192), (xI 192), (xJ 1536)]) rfl ?_
  refine wPut 68 i66_65 p66_33 rfl (by decide) rfl rfl rfl ?_
  refine tHeap (h' := [c0, c1, c2, c3, c4, c5, c6, c7, c8, c9, c10, c11, c12, c13, c14, c15, c16, .inr (4, [.ref 18, .ref 19, .ref 20, .ref 21, .ref 22, .ref 23, .ref 24, .ref 25]), (xI 8), (xI 192), (xI 192), (xI 192), (xI 192), (xI 192), (xI 192), (xJ 1536)]) rfl ?_
  refine wR0 i66_68 m66 ?_
  exact rfl
set_option maxHeartbeats 4000000 in
set_option maxRecDepth 100000 in
theorem k_Told_a {sc : xS} {d : Nat} (c0 c1 c2 c3 c4 c5 c6 c7 c8 c9 c10 c11 c12 c13 c14 c15 c16 c17 c18 c19 c20 c21 c22 c23 c24 c25 : xE) : xT xg sc (d + 1) 73 0 [(0, .ref 26), (1, .int 192)] [] [c0, c1, c2, c3, c4, c5, c6, c7, c8, c9, c10, c11, c12, c13, c14, c15, c16, c17, c18, c19, c20, c21, c22, c23, c24, c25, .inr (5, [.null, .null, .null, .null, .null, .null, .null, .null, .null, .null, .null, .int 0])] (fun r => r = (none, [c0, c1, c2, c3, c4, c5, c6, c7, c8, c9, c10, c11, c12, c13, c14, c15, c16, c17, c18, c19, c20, c21, c22, c23, c24, c25, .inr (5, [.ref 27, .ref 28, .ref 29, .ref 30, .ref 31, .ref 32, .ref 33, .ref 34, .ref 35, .ref 36, .ref 37, .int 0]), (xI 192), (xI 192), .inl (.int, 192, .inl xOne), (xZ 192), (xI 192), (xI 192), (xB 12288), (xJ 12288), (xB 12288), (xZ 192), (xI 192)], 11, 38400)) := by
  refine wLan 1 i73_0 rfl rfl ?_
  refine tObj i73_1 l73_3 (by decide) ?_
  refine wLan 5 i73_4 rfl rfl ?_
  refine wK 6 0 i73_5 (by decide) rfl ?_
  refine wPut 9 i73_6 p73_9 rfl (by decide) rfl rfl rfl ?_
  refine tHeap (h' := [c0, c1, c2, c3, c4, c5, c6, c7, c8, c9, c10, c11, c12, c13, c14, c15, c16, c17, c18, c19, c20, c21, c22, c23, c24, c25, .inr (5, [.null, .null, .null, .null, .null, .null, .null, .null, .null, .null, .null, .int 0])]) rfl ?_
  refine wLan 10 i73_9 rfl rfl ?_
  refine wLin 11 i73_10 rfl rfl ?_
  refine eNewA (n := 27) (N := 192) (c := (xI 192)) 11 38400 10 38208 i73_11 (by decide) (by decide) rfl rfl rfl rfl ?_
  refine tHeap (h' := [c0, c1, c2, c3, c4, c5, c6, c7, c8, c9, c10, c11, c12, c13, c14, c15, c16, c17, c18, c19, c20, c21, c22, c23, c24, c25, .inr (5, [.null, .null, .null, .null, .null, .null, .null, .null, .null, .null, .null, .int 0]), (xI 192)]) rfl ?_
  refine wPut 16 i73_13 p73_15 rfl (by decide) rfl rfl rfl ?_
  refine tHeap (h' := [c0, c1, c2, c3, c4, c5, c6, c7, c8, c9, c10, c11, c12, c13, c14, c15, c16, c17, c18, c19, c20, c21, c22, c23, c24, c25, .inr (5, [.ref 27, .null, .null, .null, .null, .null, .null, .null, .null, .null, .null, .int 0]), (xI 192)]) rfl ?_
  refine wLan 17 i73_16 rfl rfl ?_
  refine wLin 18 i73_17 rfl rfl ?_
  refine eNewA (n := 28) (N := 192) (c := (xI 192)) 10 38208 9 38016 i73_18 (by decide) (by decide) rfl rfl rfl rfl ?_
  refine tHeap (h' := [c0, c1, c2, c3, c4, c5, c6, c7, c8, c9, c10, c11, c12, c13, c14, c15, c16, c17, c18, c19, c20, c21, c22, c23, c24, c25, .inr (5, [.ref 27, .null, .null, .null, .null, .null, .null, .null, .null, .null, .null, .int 0]), (xI 192), (xI 192)]) rfl ?_
  refine wPut 23 i73_20 p73_19 rfl (by decide) rfl rfl rfl ?_
  refine tHeap (h' := [c0, c1, c2, c3, c4, c5, c6, c7, c8, c9, c10, c11, c12, c13, c14, c15, c16, c17, c18, c19, c20, c21, c22, c23, c24, c25, .inr (5, [.ref 27, .ref 28, .null, .null, .null, .null, .null, .null, .null, .null, .null, .int 0]), (xI 192), (xI 192)]) rfl ?_
  refine wLan 24 i73_23 rfl rfl ?_
  refine wLin 25 i73_24 rfl rfl ?_
  refine eNewA (n := 29) (N := 192) (c := (xI 192)) 9 38016 8 37824 i73_25 (by decide) (by decide) rfl rfl rfl rfl ?_
  refine tHeap (h' := [c0, c1, c2, c3, c4, c5, c6, c7, c8, c9, c10, c11, c12, c13, c14, c15, c16, c17, c18, c19, c20, c21, c22, c23, c24, c25, .inr (5, [.ref 27, .ref 28, .null, .null, .null, .null, .null, .null, .null, .null, .null, .int 0]), (xI 192), (xI 192), (xI 192)]) rfl ?_
  refine wPut 30 i73_27 p73_22 rfl (by decide) rfl rfl rfl ?_
  refine tHeap (h' := [c0, c1, c2, c3, c4, c5, c6, c7, c8, c9, c10, c11, c12, c13, c14, c15, c16, c17, c18, c19, c20, c21, c22, c23, c24, c25, .inr (5, [.ref 27, .ref 28, .ref 29, .null, .null, .null, .null, .null, .null, .null, .null, .int 0]), (xI 192), (xI 192), (xI 192)]) rfl ?_
  refine wLan 31 i73_30 rfl rfl ?_
  refine wLin 32 i73_31 rfl rfl ?_
  refine eNewA (n := 30) (N := 192) (c := (xZ 192)) 8 37824 7 37632 i73_32 (by decide) (by decide) rfl rfl rfl rfl ?_
  refine tHeap (h' := [c0, c1, c2, c3, c4, c5, c6, c7, c8, c9, c10, c11, c12, c13, c14, c15, c16, c17, c18, c19, c20, c21, c22, c23, c24, c25, .inr (5, [.ref 27, .ref 28, .ref 29, .null, .null, .null, .null, .null, .null, .null, .null, .int 0]), (xI 192), (xI 192), (xI 192), (xZ 192)]) rfl ?_
  refine wPut 37 i73_34 p73_25 rfl (by decide) rfl rfl rfl ?_
  refine tHeap (h' := [c0, c1, c2, c3, c4, c5, c6, c7, c8, c9, c10, c11, c12, c13, c14, c15, c16, c17, c18, c19, c20, c21, c22, c23, c24, c25, .inr (5, [.ref 27, .ref 28, .ref 29, .ref 30, .null, .null, .null, .null, .null, .null, .null, .int 0]), (xI 192), (xI 192), (xI 192), (xZ 192)]) rfl ?_
  refine wLan 38 i73_37 rfl rfl ?_
  refine wLin 39 i73_38 rfl rfl ?_
  refine eNewA (n := 31) (N := 192) (c := (xI 192)) 7 37632 6 37440 i73_39 (by decide) (by decide) rfl rfl rfl rfl ?_
  refine tHeap (h' := [c0, c1, c2, c3, c4, c5, c6, c7, c8, c9, c10, c11, c12, c13, c14, c15, c16, c17, c18, c19, c20, c21, c22, c23, c24, c25, .inr (5, [.ref 27, .ref 28, .ref 29, .ref 30, .null, .null, .null, .null, .null, .null, .null, .int 0]), (xI 192), (xI 192), (xI 192), (xZ 192), (xI 192)]) rfl ?_
  refine wPut 44 i73_41 p73_29 rfl (by decide) rfl rfl rfl ?_
  refine tHeap (h' := [c0, c1, c2, c3, c4, c5, c6, c7, c8, c9, c10, c11, c12, c13, c14, c15, c16, c17, c18, c19, c20, c21, c22, c23, c24, c25, .inr (5, [.ref 27, .ref 28, .ref 29, .ref 30, .ref 31, .null, .null, .null, .null, .null, .null, .int 0]), (xI 192), (xI 192), (xI 192), (xZ 192), (xI 192)]) rfl ?_
  refine wLan 45 i73_44 rfl rfl ?_
  refine wLin 46 i73_45 rfl rfl ?_
  refine eNewA (n := 32) (N := 192) (c := (xI 192)) 6 37440 5 37248 i73_46 (by decide) (by decide) rfl rfl rfl rfl ?_
  refine tHeap (h' := [c0, c1, c2, c3, c4, c5, c6, c7, c8, c9, c10, c11, c12, c13, c14, c15, c16, c17, c18, c19, c20, c21, c22, c23, c24, c25, .inr (5, [.ref 27, .ref 28, .ref 29, .ref 30, .ref 31, .null, .null, .null, .null, .null, .null, .int 0]), (xI 192), (xI 192), (xI 192), (xZ 192), (xI 192), (xI 192)]) rfl ?_
  refine wPut 51 i73_48 p73_32 rfl (by decide) rfl rfl rfl ?_
  refine tHeap (h' := [c0, c1, c2, c3, c4, c5, c6, c7, c8, c9, c10, c11, c12, c13, c14, c15, c16, c17, c18, c19, c20, c21, c22, c23, c24, c25, .inr (5, [.ref 27, .ref 28, .ref 29, .ref 30, .ref 31, .ref 32, .null, .null, .null, .null, .null, .int 0]), (xI 192), (xI 192), (xI 192), (xZ 192), (xI 192), (xI 192)]) rfl ?_
  refine wLan 52 i73_51 rfl rfl ?_
  refine wLin 53 i73_52 rfl rfl ?_
  refine wKb 55 64 i73_53 (by decide) rfl ?_
  refine wA 56 i73_55 rfl rfl rfl ?_
  refine tTop (v := 12288) (by decide) ?_
  refine eNewA (n := 33) (N := 12288) (c := (xB 12288)) 5 37248 4 24960 i73_56 (by decide) (by decide) rfl rfl rfl rfl ?_
  refine tHeap (h' := [c0, c1, c2, c3, c4, c5, c6, c7, c8, c9, c10, c11, c12, c13, c14, c15, c16, c17, c18, c19, c20, c21, c22, c23, c24, c25, .inr (5, [.ref 27, .ref 28, .ref 29, .ref 30, .ref 31, .ref 32, .null, .null, .null, .null, .null, .int 0]), (xI 192), (xI 192), (xI 192), (xZ 192), (xI 192), (xI 192), (xB 12288)]) rfl ?_
  refine wPut 61 i73_58 p73_35 rfl (by decide) rfl rfl rfl ?_
  refine tHeap (h' := [c0, c1, c2, c3, c4, c5, c6, c7, c8, c9, c10, c11, c12, c13, c14, c15, c16, c17, c18, c19, c20, c21, c22, c23, c24, c25, .inr (5, [.ref 27, .ref 28, .ref 29, .ref 30, .ref 31, .ref 32, .ref 33, .null, .null, .null, .null, .int 0]), (xI 192), (xI 192), (xI 192), (xZ 192), (xI 192), (xI 192), (xB 12288)]) rfl ?_
  refine wLan 62 i73_61 rfl rfl ?_
  refine wLin 63 i73_62 rfl rfl ?_
  refine wKb 65 64 i73_63 (by decide) rfl ?_
  refine wA 66 i73_65 rfl rfl rfl ?_
  refine tTop (v := 12288) (by decide) ?_
  refine eNewA (n := 34) (N := 12288) (c := (xJ 12288)) 4 24960 3 12672 i73_66 (by decide) (by decide) rfl rfl rfl rfl ?_
  refine tHeap (h' := [c0, c1, c2, c3, c4, c5, c6, c7, c8, c9, c10, c11, c12, c13, c14, c15, c16, c17, c18, c19, c20, c21, c22, c23, c24, c25, .inr (5, [.ref 27, .ref 28, .ref 29, .ref 30, .ref 31, .ref 32, .ref 33, .null, .null, .null, .null, .int 0]), (xI 192), (xI 192), (xI 192), (xZ 192), (xI 192), (xI 192), (xB 12288), (xJ 12288)]) rfl ?_
  refine wPut 71 i73_68 p73_39 rfl (by decide) rfl rfl rfl ?_
  refine tHeap (h' := [c0, c1, c2, c3, c4, c5, c6, c7, c8, c9, c10, c11, c12, c13, c14, c15, c16, c17, c18, c19, c20, c21, c22, c23, c24, c25, .inr (5, [.ref 27, .ref 28, .ref 29, .ref 30, .ref 31, .ref 32, .ref 33, .ref 34, .null, .null, .null, .int 0]), (xI 192), (xI 192), (xI 192), (xZ 192), (xI 192), (xI 192), (xB 12288), (xJ 12288)]) rfl ?_
  refine wLan 72 i73_71 rfl rfl ?_
  refine wLin 73 i73_72 rfl rfl ?_
  refine wKb 75 64 i73_73 (by decide) rfl ?_
  refine wA 76 i73_75 rfl rfl rfl ?_
  refine tTop (v := 12288) (by decide) ?_
  refine eNewA (n := 35) (N := 12288) (c := (xB 12288)) 3 12672 2 384 i73_76 (by decide) (by decide) rfl rfl rfl rfl ?_
  refine tHeap (h' := [c0, c1, c2, c3, c4, c5, c6, c7, c8, c9, c10, c11, c12, c13, c14, c15, c16, c17, c18, c19, c20, c21, c22, c23, c24, c25, .inr (5, [.ref 27, .ref 28, .ref 29, .ref 30, .ref 31, .ref 32, .ref 33, .ref 34, .null, .null, .null, .int 0]), (xI 192), (xI 192), (xI 192), (xZ 192), (xI 192), (xI 192), (xB 12288), (xJ 12288), (xB 12288)]) rfl ?_
  refine wPut 81 i73_78 p73_43 rfl (by decide) rfl rfl rfl ?_
  refine tHeap (h' := [c0, c1, c2, c3, c4, c5, c6, c7, c8, c9, c10, c11, c12, c13, c14, c15, c16, c17, c18, c19, c20, c21, c22, c23, c24, c25, .inr (5, [.ref 27, .ref 28, .ref 29, .ref 30, .ref 31, .ref 32, .ref 33, .ref 34, .ref 35, .null, .null, .int 0]), (xI 192), (xI 192), (xI 192), (xZ 192), (xI 192), (xI 192), (xB 12288), (xJ 12288), (xB 12288)]) rfl ?_
  refine wLan 82 i73_81 rfl rfl ?_
  refine wLin 83 i73_82 rfl rfl ?_
  refine eNewA (n := 36) (N := 192) (c := (xZ 192)) 2 384 1 192 i73_83 (by decide) (by decide) rfl rfl rfl rfl ?_
  refine tHeap (h' := [c0, c1, c2, c3, c4, c5, c6, c7, c8, c9, c10, c11, c12, c13, c14, c15, c16, c17, c18, c19, c20, c21, c22, c23, c24, c25, .inr (5, [.ref 27, .ref 28, .ref 29, .ref 30, .ref 31, .ref 32, .ref 33, .ref 34, .ref 35, .null, .null, .int 0]), (xI 192), (xI 192), (xI 192), (xZ 192), (xI 192), (xI 192), (xB 12288), (xJ 12288), (xB 12288), (xZ 192)]) rfl ?_
  refine wPut 88 i73_85 p73_46 rfl (by decide) rfl rfl rfl ?_
  refine tHeap (h' := [c0, c1, c2, c3, c4, c5, c6, c7, c8, c9, c10, c11, c12, c13, c14, c15, c16, c17, c18, c19, c20, c21, c22, c23, c24, c25, .inr (5, [.ref 27, .ref 28, .ref 29, .ref 30, .ref 31, .ref 32, .ref 33, .ref 34, .ref 35, .ref 36, .null, .int 0]), (xI 192), (xI 192), (xI 192), (xZ 192), (xI 192), (xI 192), (xB 12288), (xJ 12288), (xB 12288), (xZ 192)]) rfl ?_
  refine wLan 89 i73_88 rfl rfl ?_
  refine wLin 90 i73_89 rfl rfl ?_
  refine eNewA (n := 37) (N := 192) (c := (xI 192)) 1 192 0 0 i73_90 (by decide) (by decide) rfl rfl rfl rfl ?_
  refine tHeap (h' := [c0, c1, c2, c3, c4, c5, c6, c7, c8, c9, c10, c11, c12, c13, c14, c15, c16, c17, c18, c19, c20, c21, c22, c23, c24, c25, .inr (5, [.ref 27, .ref 28, .ref 29, .ref 30, .ref 31, .ref 32, .ref 33, .ref 34, .ref 35, .ref 36, .null, .int 0]), (xI 192), (xI 192), (xI 192), (xZ 192), (xI 192), (xI 192), (xB 12288), (xJ 12288), (xB 12288), (xZ 192), (xI 192)]) rfl ?_
  refine wPut 95 i73_92 p73_49 rfl (by decide) rfl rfl rfl ?_
  refine tHeap (h' := [c0, c1, c2, c3, c4, c5, c6, c7, c8, c9, c10, c11, c12, c13, c14, c15, c16, c17, c18, c19, c20, c21, c22, c23, c24, c25, .inr (5, [.ref 27, .ref 28, .ref 29, .ref 30, .ref 31, .ref 32, .ref 33, .ref 34, .ref 35, .ref 36, .ref 37, .int 0]), (xI 192), (xI 192), (xI 192), (xZ 192), (xI 192), (xI 192), (xB 12288), (xJ 12288), (xB 12288), (xZ 192), (xI 192)]) rfl ?_
  refine wK 96 0 i73_95 (by decide) rfl ?_
  refine wSin 97 [(2, .int 0), (0, .ref 26), (1, .int 192)] i73_96 m73 (by decide) rfl rfl ?_
  refine told_fill 26 29 _ rfl (by decide) 192 0 0 _ (fun _ => 0) rfl rfl rfl rfl (fun j hj => absurd hj (Nat.not_lt_zero j)) (fun _ _ => rfl) ?_
  refine tHeap (h' := [c0, c1, c2, c3, c4, c5, c6, c7, c8, c9, c10, c11, c12, c13, c14, c15, c16, c17, c18, c19, c20, c21, c22, c23, c24, c25, .inr (5, [.ref 27, .ref 28, .ref 29, .ref 30, .ref 31, .ref 32, .ref 33, .ref 34, .ref 35, .ref 36, .ref 37, .int 0]), (xI 192), (xI 192), .inl (.int, 192, .inl xOne), (xZ 192), (xI 192), (xI 192), (xB 12288), (xJ 12288), (xB 12288), (xZ 192), (xI 192)]) rfl ?_
  refine wR0 i73_115 m73 ?_
  exact rfl
set_option maxHeartbeats 4000000 in
set_option maxRecDepth 100000 in
theorem k_Told_b {sc : xS} {d : Nat} (c0 c1 c2 c3 c4 c5 c6 c7 c8 c9 c10 c11 c12 c13 c14 c15 c16 c17 c18 c19 c20 c21 c22 c23 c24 c25 c26 c27 c28 c29 c30 c31 c32 c33 c34 c35 c36 c37 : xE) : xT xg sc (d + 1) 73 0 [(0, .ref 38), (1, .int 192)] [] [c0, c1, c2, c3, c4, c5, c6, c7, c8, c9, c10, c11, c12, c13, c14, c15, c16, c17, c18, c19, c20, c21, c22, c23, c24, c25, c26, c27, c28, c29, c30, c31, c32, c33, c34, c35, c36, c37, .inr (5, [.null, .null, .null, .null, .null, .null, .null, .null, .null, .null, .null, .int 0])] (fun r => r = (none, [c0, c1, c2, c3, c4, c5, c6, c7, c8, c9, c10, c11, c12, c13, c14, c15, c16, c17, c18, c19, c20, c21, c22, c23, c24, c25, c26, c27, c28, c29, c30, c31, c32, c33, c34, c35, c36, c37, .inr (5, [.ref 39, .ref 40, .ref 41, .ref 42, .ref 43, .ref 44, .ref 45, .ref 46, .ref 47, .ref 48, .ref 49, .int 0]), (xI 192), (xI 192), .inl (.int, 192, .inl xOne), (xZ 192), (xI 192), (xI 192), (xB 12288), (xJ 12288), (xB 12288), (xZ 192), (xI 192)], 11, 38400)) := by
  refine wLan 1 i73_0 rfl rfl ?_
  refine tObj i73_1 l73_3 (by decide) ?_
  refine wLan 5 i73_4 rfl rfl ?_
  refine wK 6 0 i73_5 (by decide) rfl ?_
  refine wPut 9 i73_6 p73_9 rfl (by decide) rfl rfl rfl ?_
  refine tHeap (h' := [c0, c1, c2, c3, c4, c5, c6, c7, c8, c9, c10, c11, c12, c13, c14, c15, c16, c17, c18, c19, c20, c21, c22, c23, c24, c25, c26, c27, c28, c29, c30, c31, c32, c33, c34, c35, c36, c37, .inr (5, [.null, .null, .null, .null, .null, .null, .null, .null, .null, .null, .null, .int 0])]) rfl ?_
  refine wLan 10 i73_9 rfl rfl ?_
  refine wLin 11 i73_10 rfl rfl ?_
  refine eNewA (n := 39) (N := 192) (c := (xI 192)) 11 38400 10 38208 i73_11 (by decide) (by decide) rfl rfl rfl rfl ?_
  refine tHeap (h' := [c0, c1, c2, c3, c4, c5, c6, c7, c8, c9, c10, c11, c12, c13, c14, c15, c16, c17, c18, c19, c20, c21, c22, c23, c24, c25, c26, c27, c28, c29, c30, c31, c32, c33, c34, c35, c36, c37, .inr (5, [.null, .null, .null, .null, .null, .null, .null, .null, .null, .null, .null, .int 0]), (xI 192)]) rfl ?_
  refine wPut 16 i73_13 p73_15 rfl (by decide) rfl rfl rfl ?_
  refine tHeap (h' := [c0, c1, c2, c3, c4, c5, c6, c7, c8, c9, c10, c11, c12, c13, c14, c15, c16, c17, c18, c19, c20, c21, c22, c23, c24, c25, c26, c27, c28, c29, c30, c31, c32, c33, c34, c35, c36, c37, .inr (5, [.ref 39, .null, .null, .null, .null, .null, .null, .null, .null, .null, .null, .int 0]), (xI 192)]) rfl ?_
  refine wLan 17 i73_16 rfl rfl ?_
  refine wLin 18 i73_17 rfl rfl ?_
  refine eNewA (n := 40) (N := 192) (c := (xI 192)) 10 38208 9 38016 i73_18 (by decide) (by decide) rfl rfl rfl rfl ?_
  refine tHeap (h' := [c0, c1, c2, c3, c4, c5, c6, c7, c8, c9, c10, c11, c12, c13, c14, c15, c16, c17, c18, c19, c20, c21, c22, c23, c24, c25, c26, c27, c28, c29, c30, c31, c32, c33, c34, c35, c36, c37, .inr (5, [.ref 39, .null, .null, .null, .null, .null, .null, .null, .null, .null, .null, .int 0]), (xI 192), (xI 192)]) rfl ?_
  refine wPut 23 i73_20 p73_19 rfl (by decide) rfl rfl rfl ?_
  refine tHeap (h' := [c0, c1, c2, c3, c4, c5, c6, c7, c8, c9, c10, c11, c12, c13, c14, c15, c16, c17, c18, c19, c20, c21, c22, c23, c24, c25, c26, c27, c28, c29, c30, c31, c32, c33, c34, c35, c36, c37, .inr (5, [.ref 39, .ref 40, .null, .null, .null, .null, .null, .null, .null, .null, .null, .int 0]), (xI 192), (xI 192)]) rfl ?_
  refine wLan 24 i73_23 rfl rfl ?_
  refine wLin 25 i73_24 rfl rfl ?_
  refine eNewA (n := 41) (N := 192) (c := (xI 192)) 9 38016 8 37824 i73_25 (by decide) (by decide) rfl rfl rfl rfl ?_
  refine tHeap (h' := [c0, c1, c2, c3, c4, c5, c6, c7, c8, c9, c10, c11, c12, c13, c14, c15, c16, c17, c18, c19, c20, c21, c22, c23, c24, c25, c26, c27, c28, c29, c30, c31, c32, c33, c34, c35, c36, c37, .inr (5, [.ref 39, .ref 40, .null, .null, .null, .null, .null, .null, .null, .null, .null, .int 0]), (xI 192), (xI 192), (xI 192)]) rfl ?_
  refine wPut 30 i73_27 p73_22 rfl (by decide) rfl rfl rfl ?_
  refine tHeap (h' := [c0, c1, c2, c3, c4, c5, c6, c7, c8, c9, c10, c11, c12, c13, c14, c15, c16, c17, c18, c19, c20, c21, c22, c23, c24, c25, c26, c27, c28, c29, c30, c31, c32, c33, c34, c35, c36, c37, .inr (5, [.ref 39, .ref 40, .ref 41, .null, .null, .null, .null, .null, .null, .null, .null, .int 0]), (xI 192), (xI 192), (xI 192)]) rfl ?_
  refine wLan 31 i73_30 rfl rfl ?_
  refine wLin 32 i73_31 rfl rfl ?_
  refine eNewA (n := 42) (N := 192) (c := (xZ 192)) 8 37824 7 37632 i73_32 (by decide) (by decide) rfl rfl rfl rfl ?_
  refine tHeap (h' := [c0, c1, c2, c3, c4, c5, c6, c7, c8, c9, c10, c11, c12, c13, c14, c15, c16, c17, c18, c19, c20, c21, c22, c23, c24, c25, c26, c27, c28, c29, c30, c31, c32, c33, c34, c35, c36, c37, .inr (5, [.ref 39, .ref 40, .ref 41, .null, .null, .null, .null, .null, .null, .null, .null, .int 0]), (xI 192), (xI 192), (xI 192), (xZ 192)]) rfl ?_
  refine wPut 37 i73_34 p73_25 rfl (by decide) rfl rfl rfl ?_
  refine tHeap (h' := [c0, c1, c2, c3, c4, c5, c6, c7, c8, c9, c10, c11, c12, c13, c14, c15, c16, c17, c18, c19, c20, c21, c22, c23, c24, c25, c26, c27, c28, c29, c30, c31, c32, c33, c34, c35, c36, c37, .inr (5, [.ref 39, .ref 40, .ref 41, .ref 42, .null, .null, .null, .null, .null, .null, .null, .int 0]), (xI 192), (xI 192), (xI 192), (xZ 192)]) rfl ?_
  refine wLan 38 i73_37 rfl rfl ?_
  refine wLin 39 i73_38 rfl rfl ?_
  refine eNewA (n := 43) (N := 192) (c := (xI 192)) 7 37632 6 37440 i73_39 (by decide) (by decide) rfl rfl rfl rfl ?_
  refine tHeap (h' := [c0, c1, c2, c3, c4, c5, c6, c7, c8, c9, c10, c11, c12, c13, c14, c15, c16, c17, c18, c19, c20, c21, c22, c23, c24, c25, c26, c27, c28, c29, c30, c31, c32, c33, c34, c35, c36, c37, .inr (5, [.ref 39, .ref 40, .ref 41, .ref 42, .null, .null, .null, .null, .null, .null, .null, .int 0]), (xI 192), (xI 192), (xI 192), (xZ 192), (xI 192)]) rfl ?_
  refine wPut 44 i73_41 p73_29 rfl (by decide) rfl rfl rfl ?_
  refine tHeap (h' := [c0, c1, c2, c3, c4, c5, c6, c7, c8, c9, c10, c11, c12, c13, c14, c15, c16, c17, c18, c19, c20, c21, c22, c23, c24, c25, c26, c27, c28, c29, c30, c31, c32, c33, c34, c35, c36, c37, .inr (5, [.ref 39, .ref 40, .ref 41, .ref 42, .ref 43, .null, .null, .null, .null, .null, .null, .int 0]), (xI 192), (xI 192), (xI 192), (xZ 192), (xI 192)]) rfl ?_
  refine wLan 45 i73_44 rfl rfl ?_
  refine wLin 46 i73_45 rfl rfl ?_
  refine eNewA (n := 44) (N := 192) (c := (xI 192)) 6 37440 5 37248 i73_46 (by decide) (by decide) rfl rfl rfl rfl ?_
  refine tHeap (h' := [c0, c1, c2, c3, c4, c5, c6, c7, c8, c9, c10, c11, c12, c13, c14, c15, c16, c17, c18, c19, c20, c21, c22, c23, c24, c25, c26, c27, c28, c29, c30, c31, c32, c33, c34, c35, c36, c37, .inr (5, [.ref 39, .ref 40, .ref 41, .ref 42, .ref 43, .null, .null, .null, .null, .null, .null, .int 0]), (xI 192), (xI 192), (xI 192), (xZ 192), (xI 192), (xI 192)]) rfl ?_
  refine wPut 51 i73_48 p73_32 rfl (by decide) rfl rfl rfl ?_
  refine tHeap (h' := [c0, c1, c2, c3, c4, c5, c6, c7, c8, c9, c10, c11, c12, c13, c14, c15, c16, c17, c18, c19, c20, c21, c22, c23, c24, c25, c26, c27, c28, c29, c30, c31, c32, c33, c34, c35, c36, c37, .inr (5, [.ref 39, .ref 40, .ref 41, .ref 42, .ref 43, .ref 44, .null, .null, .null, .null, .null, .int 0]), (xI 192), (xI 192), (xI 192), (xZ 192), (xI 192), (xI 192)]) rfl ?_
  refine wLan 52 i73_51 rfl rfl ?_
  refine wLin 53 i73_52 rfl rfl ?_
  refine wKb 55 64 i73_53 (by decide) rfl ?_
  refine wA 56 i73_55 rfl rfl rfl ?_
  refine tTop (v := 12288) (by decide) ?_
  refine eNewA (n := 45) (N := 12288) (c := (xB 12288)) 5 37248 4 24960 i73_56 (by decide) (by decide) rfl rfl rfl rfl ?_
  refine tHeap (h' := [c0, c1, c2, c3, c4, c5, c6, c7, c8, c9, c10, c11, c12, c13, c14, c15, c16, c17, c18, c19, c20, c21, c22, c23, c24, c25, c26, c27, c28, c29, c30, c31, c32, c33, c34, c35, c36, c37, .inr (5, [.ref 39, .ref 40, .ref 41, .ref 42, .ref 43, .ref 44, .null, .null, .null, .null, .null, .int 0]), (xI 192), (xI 192), (xI 192), (xZ 192), (xI 192), (xI 192), (xB 12288)]) rfl ?_
  refine wPut 61 i73_58 p73_35 rfl (by decide) rfl rfl rfl ?_
  refine tHeap (h' := [c0, c1, c2, c3, c4, c5, c6, c7, c8, c9, c10, c11, c12, c13, c14, c15, c16, c17, c18, c19, c20, c21, c22, c23, c24, c25, c26, c27, c28, c29, c30, c31, c32, c33, c34, c35, c36, c37, .inr (5, [.ref 39, .ref 40, .ref 41, .ref 42, .ref 43, .ref 44, .ref 45, .null, .null, .null, .null, .int 0]), (xI 192), (xI 192), (xI 192), (xZ 192), (xI 192), (xI 192), (xB 12288)]) rfl ?_
  refine wLan 62 i73_61 rfl rfl ?_
  refine wLin 63 i73_62 rfl rfl ?_
  refine wKb 65 64 i73_63 (by decide) rfl ?_
  refine wA 66 i73_65 rfl rfl rfl ?_
  refine tTop (v := 12288) (by decide) ?_
  refine eNewA (n := 46) (N := 12288) (c := (xJ 12288)) 4 24960 3 12672 i73_66 (by decide) (by decide) rfl rfl rfl rfl ?_
  refine tHeap (h' := [c0, c1, c2, c3, c4, c5, c6, c7, c8, c9, c10, c11, c12, c13, c14, c15, c16, c17, c18, c19, c20, c21, c22, c23, c24, c25, c26, c27, c28, c29, c30, c31, c32, c33, c34, c35, c36, c37, .inr (5, [.ref 39, .ref 40, .ref 41, .ref 42, .ref 43, .ref 44, .ref 45, .null, .null, .null, .null, .int 0]), (xI 192), (xI 192), (xI 192), (xZ 192), (xI 192), (xI 192), (xB 12288), (xJ 12288)]) rfl ?_
  refine wPut 71 i73_68 p73_39 rfl (by decide) rfl rfl rfl ?_
  refine tHeap (h' := [c0, c1, c2, c3, c4, c5, c6, c7, c8, c9, c10, c11, c12, c13, c14, c15, c16, c17, c18, c19, c20, c21, c22, c23, c24, c25, c26, c27, c28, c29, c30, c31, c32, c33, c34, c35, c36, c37, .inr (5, [.ref 39, .ref 40, .ref 41, .ref 42, .ref 43, .ref 44, .ref 45, .ref 46, .null, .null, .null, .int 0]), (xI 192), (xI 192), (xI 192), (xZ 192), (xI 192), (xI 192), (xB 12288), (xJ 12288)]) rfl ?_
  refine wLan 72 i73_71 rfl rfl ?_
  refine wLin 73 i73_72 rfl rfl ?_
  refine wKb 75 64 i73_73 (by decide) rfl ?_
  refine wA 76 i73_75 rfl rfl rfl ?_
  refine tTop (v := 12288) (by decide) ?_
  refine eNewA (n := 47) (N := 12288) (c := (xB 12288)) 3 12672 2 384 i73_76 (by decide) (by decide) rfl rfl rfl rfl ?_
  refine tHeap (h' := [c0, c1, c2, c3, c4, c5, c6, c7, c8, c9, c10, c11, c12, c13, c14, c15, c16, c17, c18, c19, c20, c21, c22, c23, c24, c25, c26, c27, c28, c29, c30, c31, c32, c33, c34, c35, c36, c37, .inr (5, [.ref 39, .ref 40, .ref 41, .ref 42, .ref 43, .ref 44, .ref 45, .ref 46, .null, .null, .null, .int 0]), (xI 192), (xI 192), (xI 192), (xZ 192), (xI 192), (xI 192), (xB 12288), (xJ 12288), (xB 12288)]) rfl ?_
  refine wPut 81 i73_78 p73_43 rfl (by decide) rfl rfl rfl ?_
  refine tHeap (h' := [c0, c1, c2, c3, c4, c5, c6, c7, c8, c9, c10, c11, c12, c13, c14, c15, c16, c17, c18, c19, c20, c21, c22, c23, c24, c25, c26, c27, c28, c29, c30, c31, c32, c33, c34, c35, c36, c37, .inr (5, [.ref 39, .ref 40, .ref 41, .ref 42, .ref 43, .ref 44, .ref 45, .ref 46, .ref 47, .null, .null, .int 0]), (xI 192), (xI 192), (xI 192), (xZ 192), (xI 192), (xI 192), (xB 12288), (xJ 12288), (xB 12288)]) rfl ?_
  refine wLan 82 i73_81 rfl rfl ?_
  refine wLin 83 i73_82 rfl rfl ?_
  refine eNewA (n := 48) (N := 192) (c := (xZ 192)) 2 384 1 192 i73_83 (by decide) (by decide) rfl rfl rfl rfl ?_
  refine tHeap (h' := [c0, c1, c2, c3, c4, c5, c6, c7, c8, c9, c10, c11, c12, c13, c14, c15, c16, c17, c18, c19, c20, c21, c22, c23, c24, c25, c26, c27, c28, c29, c30, c31, c32, c33, c34, c35, c36, c37, .inr (5, [.ref 39, .ref 40, .ref 41, .ref 42, .ref 43, .ref 44, .ref 45, .ref 46, .ref 47, .null, .null, .int 0]), (xI 192), (xI 192), (xI 192), (xZ 192), (xI 192), (xI 192), (xB 12288), (xJ 12288), (xB 12288), (xZ 192)]) rfl ?_
  refine wPut 88 i73_85 p73_46 rfl (by decide) rfl rfl rfl ?_
  refine tHeap (h' := [c0, c1, c2, c3, c4, c5, c6, c7, c8, c9, c10, c11, c12, c13, c14, c15, c16, c17, c18, c19, c20, c21, c22, c23, c24, c25, c26, c27, c28, c29, c30, c31, c32, c33, c34, c35, c36, c37, .inr (5, [.ref 39, .ref 40, .ref 41, .ref 42, .ref 43, .ref 44, .ref 45, .ref 46, .ref 47, .ref 48, .null, .int 0]), (xI 192), (xI 192), (xI 192), (xZ 192), (xI 192), (xI 192), (xB 12288), (xJ 12288), (xB 12288), (xZ 192)]) rfl ?_
  refine wLan 89 i73_88 rfl rfl ?_
  refine wLin 90 i73_89 rfl rfl ?_
  refine eNewA (n := 49) (N := 192) (c := (xI 192)) 1 192 0 0 i73_90 (by decide) (by decide) rfl rfl rfl rfl ?_
  refine tHeap (h' := [c0, c1, c2, c3, c4, c5, c6, c7, c8, c9, c10, c11, c12, c13, c14, c15, c16, c17, c18, c19, c20, c21, c22, c23, c24, c25, c26, c27, c28, c29, c30, c31, c32, c33, c34, c35, c36, c37, .inr (5, [.ref 39, .ref 40, .ref 41, .ref 42, .ref 43, .ref 44, .ref 45, .ref 46, .ref 47, .ref 48, .null, .int 0]), (xI 192), (xI 192), (xI 192), (xZ 192), (xI 192), (xI 192), (xB 12288), (xJ 12288), (xB 12288), (xZ 192), (xI 192)]) rfl ?_
  refine wPut 95 i73_92 p73_49 rfl (by decide) rfl rfl rfl ?_
  refine tHeap (h' := [c0, c1, c2, c3, c4, c5, c6, c7, c8, c9, c10, c11, c12, c13, c14, c15, c16, c17, c18, c19, c20, c21, c22, c23, c24, c25, c26, c27, c28, c29, c30, c31, c32, c33, c34, c35, c36, c37, .inr (5, [.ref 39, .ref 40, .ref 41, .ref 42, .ref 43, .ref 44, .ref 45, .ref 46, .ref 47, .ref 48, .ref 49, .int 0]), (xI 192), (xI 192), (xI 192), (xZ 192), (xI 192), (xI 192), (xB 12288), (xJ 12288), (xB 12288), (xZ 192), (xI 192)]) rfl ?_
  refine wK 96 0 i73_95 (by decide) rfl ?_
  refine wSin 97 [(2, .int 0), (0, .ref 38), (1, .int 192)] i73_96 m73 (by decide) rfl rfl ?_
  refine told_fill 38 41 _ rfl (by decide) 192 0 0 _ (fun _ => 0) rfl rfl rfl rfl (fun j hj => absurd hj (Nat.not_lt_zero j)) (fun _ _ => rfl) ?_
  refine tHeap (h' := [c0, c1, c2, c3, c4, c5, c6, c7, c8, c9, c10, c11, c12, c13, c14, c15, c16, c17, c18, c19, c20, c21, c22, c23, c24, c25, c26, c27, c28, c29, c30, c31, c32, c33, c34, c35, c36, c37, .inr (5, [.ref 39, .ref 40, .ref 41, .ref 42, .ref 43, .ref 44, .ref 45, .ref 46, .ref 47, .ref 48, .ref 49, .int 0]), (xI 192), (xI 192), .inl (.int, 192, .inl xOne), (xZ 192), (xI 192), (xI 192), (xB 12288), (xJ 12288), (xB 12288), (xZ 192), (xI 192)]) rfl ?_
  refine wR0 i73_115 m73 ?_
  exact rfl
set_option maxHeartbeats 4000000 in
set_option maxRecDepth 100000 in
theorem k_Teller {sc : xS} {d : Nat} (c0 c1 c2 c3 c4 c5 c6 c7 c8 c9 c10 c11 c12 c13 c14 c15 c16 c17 c18 c19 c20 c21 c22 c23 c24 c25 c26 c27 c28 c29 c30 c31 c32 c33 c34 c35 c36 c37 c38 c39 c40 c41 c42 c43 c44 c45 c46 c47 c48 c49 : xE) : xT xg sc (d + 1) 48 0 [(0, .ref 50), (1, .ref 17), (2, .ref 26)] [] [c0, c1, c2, c3, c4, c5, c6, c7, c8, c9, c10, c11, c12, c13, c14, c15, c16, c17, c18, c19, c20, c21, c22, c23, c24, c25, c26, c27, c28, c29, c30, c31, c32, c33, c34, c35, c36, c37, c38, c39, c40, c41, c42, c43, c44, c45, c46, c47, c48, c49, .inr (3, [.null, .null, .int 0, .int 0, .long 0])] (fun r => r = (none, [c0, c1, c2, c3, c4, c5, c6, c7, c8, c9, c10, c11, c12, c13, c14, c15, c16, c17, c18, c19, c20, c21, c22, c23, c24, c25, c26, c27, c28, c29, c30, c31, c32, c33, c34, c35, c36, c37, c38, c39, c40, c41, c42, c43, c44, c45, c46, c47, c48, c49, .inr (3, [.ref 17, .ref 26, .int 0, .int 0, .long 0])], 0, 0)) := by
  refine wLan 1 i48_0 rfl rfl ?_
  refine tObj i48_1 l48_3 (by decide) ?_
  refine wLan 5 i48_4 rfl rfl ?_
  refine wK 6 0 i48_5 (by decide) rfl ?_
  refine wPut 9 i48_6 p48_9 rfl (by decide) rfl rfl rfl ?_
  refine tHeap (h' := [c0, c1, c2, c3, c4, c5, c6, c7, c8, c9, c10, c11, c12, c13, c14, c15, c16, c17, c18, c19, c20, c21, c22, c23, c24, c25, c26, c27, c28, c29, c30, c31, c32, c33, c34, c35, c36, c37, c38, c39, c40, c41, c42, c43, c44, c45, c46, c47, c48, c49, .inr (3, [.null, .null, .int 0, .int 0, .long 0])]) rfl ?_
  refine wLan 10 i48_9 rfl rfl ?_
  refine wK 11 0 i48_10 (by decide) rfl ?_
  refine wPut 14 i48_11 p48_15 rfl (by decide) rfl rfl rfl ?_
  refine tHeap (h' := [c0, c1, c2, c3, c4, c5, c6, c7, c8, c9, c10, c11, c12, c13, c14, c15, c16, c17, c18, c19, c20, c21, c22, c23, c24, c25, c26, c27, c28, c29, c30, c31, c32, c33, c34, c35, c36, c37, c38, c39, c40, c41, c42, c43, c44, c45, c46, c47, c48, c49, .inr (3, [.null, .null, .int 0, .int 0, .long 0])]) rfl ?_
  refine wLan 15 i48_14 rfl rfl ?_
  refine wKl 16 0 i48_15 (by decide) rfl ?_
  refine wPut 19 i48_16 p48_18 rfl (by decide) rfl rfl rfl ?_
  refine tHeap (h' := [c0, c1, c2, c3, c4, c5, c6, c7, c8, c9, c10, c11, c12, c13, c14, c15, c16, c17, c18, c19, c20, c21, c22, c23, c24, c25, c26, c27, c28, c29, c30, c31, c32, c33, c34, c35, c36, c37, c38, c39, c40, c41, c42, c43, c44, c45, c46, c47, c48, c49, .inr (3, [.null, .null, .int 0, .int 0, .long 0])]) rfl ?_
  refine wLan 20 i48_19 rfl rfl ?_
  refine wLan 21 i48_20 rfl rfl ?_
  refine wPut 24 i48_21 p48_22 rfl (by decide) rfl rfl rfl ?_
  refine tHeap (h' := [c0, c1, c2, c3, c4, c5, c6, c7, c8, c9, c10, c11, c12, c13, c14, c15, c16, c17, c18, c19, c20, c21, c22, c23, c24, c25, c26, c27, c28, c29, c30, c31, c32, c33, c34, c35, c36, c37, c38, c39, c40, c41, c42, c43, c44, c45, c46, c47, c48, c49, .inr (3, [.ref 17, .null, .int 0, .int 0, .long 0])]) rfl ?_
  refine wLan 25 i48_24 rfl rfl ?_
  refine wLan 26 i48_25 rfl rfl ?_
  refine wPut 29 i48_26 p48_26 rfl (by decide) rfl rfl rfl ?_
  refine tHeap (h' := [c0, c1, c2, c3, c4, c5, c6, c7, c8, c9, c10, c11, c12, c13, c14, c15, c16, c17, c18, c19, c20, c21, c22, c23, c24, c25, c26, c27, c28, c29, c30, c31, c32, c33, c34, c35, c36, c37, c38, c39, c40, c41, c42, c43, c44, c45, c46, c47, c48, c49, .inr (3, [.ref 17, .ref 26, .int 0, .int 0, .long 0])]) rfl ?_
  refine wR0 i48_29 m48 ?_
  exact rfl
set_option maxHeartbeats 4000000 in
set_option maxRecDepth 100000 in
theorem k_Sheets {sc : xS} {d : Nat} (c0 c1 c2 c3 c4 c5 c6 c7 c8 c9 c10 c11 c12 c13 c14 c15 c16 c17 c18 c19 c20 c21 c22 c23 c24 c25 c26 c27 c28 c29 c30 c31 c32 c33 c34 c35 c36 c37 c38 c39 c40 c41 c42 c43 c44 c45 c46 c47 c48 c49 c50 : xE) : xT xg sc (d + 1) 32 0 [(0, .ref 51)] [] [c0, c1, c2, c3, c4, c5, c6, c7, c8, c9, c10, c11, c12, c13, c14, c15, c16, c17, c18, c19, c20, c21, c22, c23, c24, c25, c26, c27, c28, c29, c30, c31, c32, c33, c34, c35, c36, c37, c38, c39, c40, c41, c42, c43, c44, c45, c46, c47, c48, c49, c50, .inr (2, [.null, .null, .null])] (fun r => r = (none, [c0, c1, c2, c3, c4, c5, c6, c7, c8, c9, c10, c11, c12, c13, c14, c15, c16, c17, c18, c19, c20, c21, c22, c23, c24, c25, c26, c27, c28, c29, c30, c31, c32, c33, c34, c35, c36, c37, c38, c39, c40, c41, c42, c43, c44, c45, c46, c47, c48, c49, c50, .inr (2, [.ref 52, .ref 53, .ref 54]), .inl (.int, 4, .inl (upd (upd (upd (upd (fun _ => 0) 0 (-1)) 1 (-1)) 2 (-1)) 3 (-1))), (xI 4), (xJ 160)], 3, 168)) := by
  refine wLan 1 i32_0 rfl rfl ?_
  refine tObj i32_1 l32_3 (by decide) ?_
  refine wLan 5 i32_4 rfl rfl ?_
  refine wK 6 4 i32_5 (by decide) rfl ?_
  refine eNewA (n := 52) (N := 4) (c := (xI 4)) 3 168 2 164 i32_6 (by decide) (by decide) rfl rfl rfl rfl ?_
  refine tHeap (h' := [c0, c1, c2, c3, c4, c5, c6, c7, c8, c9, c10, c11, c12, c13, c14, c15, c16, c17, c18, c19, c20, c21, c22, c23, c24, c25, c26, c27, c28, c29, c30, c31, c32, c33, c34, c35, c36, c37, c38, c39, c40, c41, c42, c43, c44, c45, c46, c47, c48, c49, c50, .inr (2, [.null, .null, .null]), (xI 4)]) rfl ?_
  refine wPut 11 i32_8 p32_9 rfl (by decide) rfl rfl rfl ?_
  refine tHeap (h' := [c0, c1, c2, c3, c4, c5, c6, c7, c8, c9, c10, c11, c12, c13, c14, c15, c16, c17, c18, c19, c20, c21, c22, c23, c24, c25, c26, c27, c28, c29, c30, c31, c32, c33, c34, c35, c36, c37, c38, c39, c40, c41, c42, c43, c44, c45, c46, c47, c48, c49, c50, .inr (2, [.ref 52, .null, .null]), (xI 4)]) rfl ?_
  refine wLan 12 i32_11 rfl rfl ?_
  refine wK 13 4 i32_12 (by decide) rfl ?_
  refine eNewA (n := 53) (N := 4) (c := (xI 4)) 2 164 1 160 i32_13 (by decide) (by decide) rfl rfl rfl rfl ?_
  refine tHeap (h' := [c0, c1, c2, c3, c4, c5, c6, c7, c8, c9, c10, c11, c12, c13, c14, c15, c16, c17, c18, c19, c20, c21, c22, c23, c24, c25, c26, c27, c28, c29, c30, c31, c32, c33, c34, c35, c36, c37, c38, c39, c40, c41, c42, c43, c44, c45, c46, c47, c48, c49, c50, .inr (2, [.ref 52, .null, .null]), (xI 4), (xI 4)]) rfl ?_
  refine wPut 18 i32_15 p32_15 rfl (by decide) rfl rfl rfl ?_
  refine tHeap (h' := [c0, c1, c2, c3, c4, c5, c6, c7, c8, c9, c10, c11, c12, c13, c14, c15, c16, c17, c18, c19, c20, c21, c22, c23, c24, c25, c26, c27, c28, c29, c30, c31, c32, c33, c34, c35, c36, c37, c38, c39, c40, c41, c42, c43, c44, c45, c46, c47, c48, c49, c50, .inr (2, [.ref 52, .ref 53, .null]), (xI 4), (xI 4)]) rfl ?_
  refine wLan 19 i32_18 rfl rfl ?_
  refine wKs 22 160 i32_19 (by decide) rfl ?_
  refine eNewA (n := 54) (N := 160) (c := (xJ 160)) 1 160 0 0 i32_22 (by decide) (by decide) rfl rfl rfl rfl ?_
  refine tHeap (h' := [c0, c1, c2, c3, c4, c5, c6, c7, c8, c9, c10, c11, c12, c13, c14, c15, c16, c17, c18, c19, c20, c21, c22, c23, c24, c25, c26, c27, c28, c29, c30, c31, c32, c33, c34, c35, c36, c37, c38, c39, c40, c41, c42, c43, c44, c45, c46, c47, c48, c49, c50, .inr (2, [.ref 52, .ref 53, .null]), (xI 4), (xI 4), (xJ 160)]) rfl ?_
  refine wPut 27 i32_24 p32_18 rfl (by decide) rfl rfl rfl ?_
  refine tHeap (h' := [c0, c1, c2, c3, c4, c5, c6, c7, c8, c9, c10, c11, c12, c13, c14, c15, c16, c17, c18, c19, c20, c21, c22, c23, c24, c25, c26, c27, c28, c29, c30, c31, c32, c33, c34, c35, c36, c37, c38, c39, c40, c41, c42, c43, c44, c45, c46, c47, c48, c49, c50, .inr (2, [.ref 52, .ref 53, .ref 54]), (xI 4), (xI 4), (xJ 160)]) rfl ?_
  refine wK 28 0 i32_27 (by decide) rfl ?_
  refine wSin 29 [(1, .int 0), (0, .ref 51)] i32_28 m32 (by decide) rfl rfl ?_
  refine wLin 30 i32_29 rfl rfl ?_
  refine wK 31 4 i32_30 (by decide) rfl ?_
  refine wCF 47 34 i32_31 rfl (by decide) rfl ?_
  refine wLan 35 i32_34 rfl rfl ?_
  refine wGet 38 (.ref 52) i32_35 f32_9 rfl rfl rfl ?_
  refine wLin 39 i32_38 rfl rfl ?_
  refine wK 40 (-1) i32_39 (by decide) rfl ?_
  refine wIas 41 i32_40 rfl (by decide) rfl ?_
  refine tHeap (h' := [c0, c1, c2, c3, c4, c5, c6, c7, c8, c9, c10, c11, c12, c13, c14, c15, c16, c17, c18, c19, c20, c21, c22, c23, c24, c25, c26, c27, c28, c29, c30, c31, c32, c33, c34, c35, c36, c37, c38, c39, c40, c41, c42, c43, c44, c45, c46, c47, c48, c49, c50, .inr (2, [.ref 52, .ref 53, .ref 54]), .inl (.int, 4, .inl (upd (fun _ => 0) 0 (-1))), (xI 4), (xJ 160)]) rfl ?_
  refine wInc 44 [(1, .int 1), (0, .ref 51)] 1 i32_41 m32 (by decide) rfl (by decide) rfl rfl ?_
  refine wGo 29 i32_44 rfl ?_
  refine wLin 30 i32_29 rfl rfl ?_
  refine wK 31 4 i32_30 (by decide) rfl ?_
  refine wCF 47 34 i32_31 rfl (by decide) rfl ?_
  refine wLan 35 i32_34 rfl rfl ?_
  refine wGet 38 (.ref 52) i32_35 f32_9 rfl rfl rfl ?_
  refine wLin 39 i32_38 rfl rfl ?_
  refine wK 40 (-1) i32_39 (by decide) rfl ?_
  refine wIas 41 i32_40 rfl (by decide) rfl ?_
  refine tHeap (h' := [c0, c1, c2, c3, c4, c5, c6, c7, c8, c9, c10, c11, c12, c13, c14, c15, c16, c17, c18, c19, c20, c21, c22, c23, c24, c25, c26, c27, c28, c29, c30, c31, c32, c33, c34, c35, c36, c37, c38, c39, c40, c41, c42, c43, c44, c45, c46, c47, c48, c49, c50, .inr (2, [.ref 52, .ref 53, .ref 54]), .inl (.int, 4, .inl (upd (upd (fun _ => 0) 0 (-1)) 1 (-1))), (xI 4), (xJ 160)]) rfl ?_
  refine wInc 44 [(1, .int 2), (0, .ref 51)] 2 i32_41 m32 (by decide) rfl (by decide) rfl rfl ?_
  refine wGo 29 i32_44 rfl ?_
  refine wLin 30 i32_29 rfl rfl ?_
  refine wK 31 4 i32_30 (by decide) rfl ?_
  refine wCF 47 34 i32_31 rfl (by decide) rfl ?_
  refine wLan 35 i32_34 rfl rfl ?_
  refine wGet 38 (.ref 52) i32_35 f32_9 rfl rfl rfl ?_
  refine wLin 39 i32_38 rfl rfl ?_
  refine wK 40 (-1) i32_39 (by decide) rfl ?_
  refine wIas 41 i32_40 rfl (by decide) rfl ?_
  refine tHeap (h' := [c0, c1, c2, c3, c4, c5, c6, c7, c8, c9, c10, c11, c12, c13, c14, c15, c16, c17, c18, c19, c20, c21, c22, c23, c24, c25, c26, c27, c28, c29, c30, c31, c32, c33, c34, c35, c36, c37, c38, c39, c40, c41, c42, c43, c44, c45, c46, c47, c48, c49, c50, .inr (2, [.ref 52, .ref 53, .ref 54]), .inl (.int, 4, .inl (upd (upd (upd (fun _ => 0) 0 (-1)) 1 (-1)) 2 (-1))), (xI 4), (xJ 160)]) rfl ?_
  refine wInc 44 [(1, .int 3), (0, .ref 51)] 3 i32_41 m32 (by decide) rfl (by decide) rfl rfl ?_
  refine wGo 29 i32_44 rfl ?_
  refine wLin 30 i32_29 rfl rfl ?_
  refine wK 31 4 i32_30 (by decide) rfl ?_
  refine wCF 47 34 i32_31 rfl (by decide) rfl ?_
  refine wLan 35 i32_34 rfl rfl ?_
  refine wGet 38 (.ref 52) i32_35 f32_9 rfl rfl rfl ?_
  refine wLin 39 i32_38 rfl rfl ?_
  refine wK 40 (-1) i32_39 (by decide) rfl ?_
  refine wIas 41 i32_40 rfl (by decide) rfl ?_
  refine tHeap (h' := [c0, c1, c2, c3, c4, c5, c6, c7, c8, c9, c10, c11, c12, c13, c14, c15, c16, c17, c18, c19, c20, c21, c22, c23, c24, c25, c26, c27, c28, c29, c30, c31, c32, c33, c34, c35, c36, c37, c38, c39, c40, c41, c42, c43, c44, c45, c46, c47, c48, c49, c50, .inr (2, [.ref 52, .ref 53, .ref 54]), .inl (.int, 4, .inl (upd (upd (upd (upd (fun _ => 0) 0 (-1)) 1 (-1)) 2 (-1)) 3 (-1))), (xI 4), (xJ 160)]) rfl ?_
  refine wInc 44 [(1, .int 4), (0, .ref 51)] 4 i32_41 m32 (by decide) rfl (by decide) rfl rfl ?_
  refine wGo 29 i32_44 rfl ?_
  refine wLin 30 i32_29 rfl rfl ?_
  refine wK 31 4 i32_30 (by decide) rfl ?_
  refine wCT 47 i32_31 rfl (by decide) ?_
  refine wR0 i32_47 m32 ?_
  exact rfl
set_option maxHeartbeats 4000000 in
set_option maxRecDepth 100000 in
theorem k_Texts_b {sc : xS} {d : Nat} (c0 c1 c2 c3 c4 c5 c6 c7 c8 c9 c10 c11 c12 c13 c14 c15 c16 c17 c18 c19 c20 c21 c22 c23 c24 c25 c26 c27 c28 c29 c30 c31 c32 c33 c34 c35 c36 c37 c38 c39 c40 c41 c42 c43 c44 c45 c46 c47 c48 c49 c50 c51 c52 c53 c54 c55 : xE) : xT xg sc (d + 1) 66 0 [(0, .ref 56), (1, .int 8)] [] [c0, c1, c2, c3, c4, c5, c6, c7, c8, c9, c10, c11, c12, c13, c14, c15, c16, c17, c18, c19, c20, c21, c22, c23, c24, c25, c26, c27, c28, c29, c30, c31, c32, c33, c34, c35, c36, c37, c38, c39, c40, c41, c42, c43, c44, c45, c46, c47, c48, c49, c50, c51, c52, c53, c54, c55, .inr (4, [.null, .null, .null, .null, .null, .null, .null, .null])] (fun r => r = (none, [c0, c1, c2, c3, c4, c5, c6, c7, c8, c9, c10, c11, c12, c13, c14, c15, c16, c17, c18, c19, c20, c21, c22, c23, c24, c25, c26, c27, c28, c29, c30, c31, c32, c33, c34, c35, c36, c37, c38, c39, c40, c41, c42, c43, c44, c45, c46, c47, c48, c49, c50, c51, c52, c53, c54, c55, .inr (4, [.ref 57, .ref 58, .ref 59, .ref 60, .ref 61, .ref 62, .ref 63, .ref 64]), (xI 8), (xI 192), (xI 192), (xI 192), (xI 192), (xI 192), (xI 192), (xJ 1536)], 8, 2696)) := by
  refine wLan 1 i66_0 rfl rfl ?_
  refine tObj i66_1 l66_3 (by decide) ?_
  refine wLin 5 i66_4 rfl rfl ?_
  refine wKb 7 24 i66_5 (by decide) rfl ?_
  refine wA 8 i66_7 rfl rfl rfl ?_
  refine tTop (v := 192) (by decide) ?_
  refine wSin 9 [(2, .int 192), (0, .ref 56), (1, .int 8)] i66_8 m66 (by decide) rfl rfl ?_
  refine wLan 10 i66_9 rfl rfl ?_
  refine wLin 11 i66_10 rfl rfl ?_
  refine eNewA (n := 57) (N := 8) (c := (xI 8)) 8 2696 7 2688 i66_11 (by decide) (by decide) rfl rfl rfl rfl ?_
  refine tHeap (h' := [c0, c1, c2, c3, c4, c5, c6, c7, c8, c9, c10, c11, c12, c13, c14, c15, c16, c17, c18, c19, c20, c21, c22, c23, c24, c25, c26, c27, c28, c29, c30, c31, c32, c33, c34, c35, c36, c37, c38, c39, c40, c41, c42, c43, c44, c45, c46, c47, c48, c49, c50, c51, c52, c53, c54, c55, .inr (4, [.null, .null, .null, .null, .null, .null, .null, .null]), (xI 8)]) rfl ?_
  refine wPut 16 i66_13 p66_9 rfl (by decide) rfl rfl rfl ?_
  refine tHeap (h' := [c0, c1, c2, c3, c4, c5, c6, c7, c8, c9, c10, c11, c12, c13, c14, c15, c16, c17, c18, c19, c20, c21, c22, c23, c24, c25, c26, c27, c28, c29, c30, c31, c32, c33, c34, c35, c36, c37, c38, c39, c40, c41, c42, c43, c44, c45, c46, c47, c48, c49, c50, c51, c52, c53, c54, c55, .inr (4, [.ref 57, .null, .null, .null, .null, .null, .null, .null]), (xI 8)]) rfl ?_
  refine wLan 17 i66_16 rfl rfl ?_
  refine wLin 18 i66_17 rfl rfl ?_
  refine eNewA (n := 58) (N := 192) (c := (xI 192)) 7 2688 6 2496 i66_18 (by decide) (by decide) rfl rfl rfl rfl ?_
  refine tHeap (h' := [c0, c1, c2, c3, c4, c5, c6, c7, c8, c9, c10, c11, c12, c13, c14, c15, c16, c17, c18, c19, c20, c21, c22, c23, c24, c25, c26, c27, c28, c29, c30, c31, c32, c33, c34, c35, c36, c37, c38, c39, c40, c41, c42, c43, c44, c45, c46, c47, c48, c49, c50, c51, c52, c53, c54, c55, .inr (4, [.ref 57, .null, .null, .null, .null, .null, .null, .null]), (xI 8), (xI 192)]) rfl ?_
  refine wPut 23 i66_20 p66_15 rfl (by decide) rfl rfl rfl ?_
  refine tHeap (h' := [c0, c1, c2, c3, c4, c5, c6, c7, c8, c9, c10, c11, c12, c13, c14, c15, c16, c17, c18, c19, c20, c21, c22, c23, c24, c25, c26, c27, c28, c29, c30, c31, c32, c33, c34, c35, c36, c37, c38, c39, c40, c41, c42, c43, c44, c45, c46, c47, c48, c49, c50, c51, c52, c53, c54, c55, .inr (4, [.ref 57, .ref 58, .null, .null, .null, .null, .null, .null]), (xI 8), (xI 192)]) rfl ?_
  refine wLan 24 i66_23 rfl rfl ?_
  refine wLin 25 i66_24 rfl rfl ?_
  refine eNewA (n := 59) (N := 192) (c := (xI 192)) 6 2496 5 2304 i66_25 (by decide) (by decide) rfl rfl rfl rfl ?_
  refine tHeap (h' := [c0, c1, c2, c3, c4, c5, c6, c7, c8, c9, c10, c11, c12, c13, c14, c15, c16, c17, c18, c19, c20, c21, c22, c23, c24, c25, c26, c27, c28, c29, c30, c31, c32, c33, c34, c35, c36, c37, c38, c39, c40, c41, c42, c43, c44, c45, c46, c47, c48, c49, c50, c51, c52, c53, c54, c55, .inr (4, [.ref 57, .ref 58, .null, .null, .null, .null, .null, .null]), (xI 8), (xI 192), (xI 192)]) rfl ?_
  refine wPut 30 i66_27 p66_18 rfl (by decide) rfl rfl rfl ?_
  refine tHeap (h' := [c0, c1, c2, c3, c4, c5, c6, c7, c8, c9, c10, c11, c12, c13, c14, c15, c16, c17, c18, c19, c20, c21, c22, c23, c24, c25, c26, c27, c28, c29, c30, c31, c32, c33, c34, c35, c36, c37, c38, c39, c40, c41, c42, c43, c44, c45, c46, c47, c48, c49, c50, c51, c52, c53, c54, c55, .inr (4, [.ref 57, .ref 58, .ref 59, .null, .null, .null, .null, .null]), (xI 8), (xI 192), (xI 192)]) rfl ?_
  refine wLan 31 i66_30 rfl rfl ?_
  refine wLin 32 i66_31 rfl rfl ?_
  refine eNewA (n := 60) (N := 192) (c := (xI 192)) 5 2304 4 2112 i66_32 (by decide) (by decide) rfl rfl rfl rfl ?_
  refine tHeap (h' := [c0, c1, c2, c3, c4, c5, c6, c7, c8, c9, c10, c11, c12, c13, c14, c15, c16, c17, c18, c19, c20, c21, c22, c23, c24, c25, c26, c27, c28, c29, c30, c31, c32, c33, c34, c35, c36, c37, c38, c39, c40, c41, c42, c43, c44, c45, c46, c47, c48, c49, c50, c51, c52, c53, c54, c55, .inr (4, [.ref 57, .ref 58, .ref 59, .null, .null, .null, .null, .null]), (xI 8), (xI 192), (xI 192), (xI 192)]) rfl ?_
  refine wPut 37 i66_34 p66_21 rfl (by decide) rfl rfl rfl ?_
  refine tHeap (h' := [c0, c1, c2, c3, c4, c5, c6, c7, c8, c9, c10, c11, c12, c13, c14, c15, c16, c17, c18, c19, c20, c21, c22, c23, c24, c25, c26, c27, c28, c29, c30, c31, c32, c33, c34, c35, c36, c37, c38, c39, c40, c41, c42, c43, c44, c45, c46, c47, c48, c49, c50, c51, c52, c53, c54, c55, .inr (4, [.ref 57, .ref 58, .ref 59, .ref 60, .null, .null, .null, .null]), (xI 8), (xI 192), (xI 192), (xI 192)]) rfl ?_
  refine wLan 38 i66_37 rfl rfl ?_
  refine wLin 39 i66_38 rfl rfl ?_
  refine eNewA (n := 61) (N := 192) (c := (xI 192)) 4 2112 3 1920 i66_39 (by decide) (by decide) rfl rfl rfl rfl ?_
  refine tHeap (h' := [c0, c1, c2, c3, c4, c5, c6, c7, c8, c9, c10, c11, c12, c13, c14, c15, c16, c17, c18, c19, c20, c21, c22, c23, c24, c25, c26, c27, c28, c29, c30, c31, c32, c33, c34, c35, c36, c37, c38, c39, c40, c41, c42, c43, c44, c45, c46, c47, c48, c49, c50, c51, c52, c53, c54, c55, .inr (4, [.ref 57, .ref 58, .ref 59, .ref 60, .null, .null, .null, .null]), (xI 8), (xI 192), (xI 192), (xI 192), (xI 192)]) rfl ?_
  refine wPut 44 i66_41 p66_24 rfl (by decide) rfl rfl rfl ?_
  refine tHeap (h' := [c0, c1, c2, c3, c4, c5, c6, c7, c8, c9, c10, c11, c12, c13, c14, c15, c16, c17, c18, c19, c20, c21, c22, c23, c24, c25, c26, c27, c28, c29, c30, c31, c32, c33, c34, c35, c36, c37, c38, c39, c40, c41, c42, c43, c44, c45, c46, c47, c48, c49, c50, c51, c52, c53, c54, c55, .inr (4, [.ref 57, .ref 58, .ref 59, .ref 60, .ref 61, .null, .null, .null]), (xI 8), (xI 192), (xI 192), (xI 192), (xI 192)]) rfl ?_
  refine wLan 45 i66_44 rfl rfl ?_
  refine wLin 46 i66_45 rfl rfl ?_
  refine eNewA (n := 62) (N := 192) (c := (xI 192)) 3 1920 2 1728 i66_46 (by decide) (by decide) rfl rfl rfl rfl ?_
  refine tHeap (h' := [c0, c1, c2, c3, c4, c5, c6, c7, c8, c9, c10, c11, c12, c13, c14, c15, c16, c17, c18, c19, c20, c21, c22, c23, c24, c25, c26, c27, c28, c29, c30, c31, c32, c33, c34, c35, c36, c37, c38, c39, c40, c41, c42, c43, c44, c45, c46, c47, c48, c49, c50, c51, c52, c53, c54, c55, .inr (4, [.ref 57, .ref 58, .ref 59, .ref 60, .ref 61, .null, .null, .null]), (xI 8), (xI 192), (xI 192), (xI 192), (xI 192), (xI 192)]) rfl ?_
  refine wPut 51 i66_48 p66_27 rfl (by decide) rfl rfl rfl ?_
  refine tHeap (h' := [c0, c1, c2, c3, c4, c5, c6, c7, c8, c9, c10, c11, c12, c13, c14, c15, c16, c17, c18, c19, c20, c21, c22, c23, c24, c25, c26, c27, c28, c29, c30, c31, c32, c33, c34, c35, c36, c37, c38, c39, c40, c41, c42, c43, c44, c45, c46, c47, c48, c49, c50, c51, c52, c53, c54, c55, .inr (4, [.ref 57, .ref 58, .ref 59, .ref 60, .ref 61, .ref 62, .null, .null]), (xI 8), (xI 192), (xI 192), (xI 192), (xI 192), (xI 192)]) rfl ?_
  refine wLan 52 i66_51 rfl rfl ?_
  refine wLin 53 i66_52 rfl rfl ?_
  refine eNewA (n := 63) (N := 192) (c := (xI 192)) 2 1728 1 1536 i66_53 (by decide) (by decide) rfl rfl rfl rfl ?_
  refine tHeap (h' := [c0, c1, c2, c3, c4, c5, c6, c7, c8, c9, c10, c11, c12, c13, c14, c15, c16, c17, c18, c19, c20, c21, c22, c23, c24, c25, c26, c27, c28, c29, c30, c31, c32, c33, c34, c35, c36, c37, c38, c39, c40, c41, c42, c43, c44, c45, c46, c47, c48, c49, c50, c51, c52, c53, c54, c55, .inr (4, [.ref 57, .ref 58, .ref 59, .ref 60, .ref 61, .ref 62, .null, .null]), (xI 8), (xI 192), (xI 192), (xI 192), (xI 192), (xI 192), (xI 192)]) rfl ?_
  refine wPut 58 i66_55 p66_30 rfl (by decide) rfl rfl rfl ?_
  refine tHeap (h' := [c0, c1, c2, c3, c4, c5, c6, c7, c8, c9, c10, c11, c12, c13, c14, c15, c16, c17, c18, c19, c20, c21, c22, c23, c24, c25, c26, c27, c28, c29, c30, c31, c32, c33, c34, c35, c36, c37, c38, c39, c40, c41, c42, c43, c44, c45, c46, c47, c48, c49, c50, c51, c52, c53, c54, c55, .inr (4, [.ref 57, .ref 58, .ref 59, .ref 60, .ref 61, .ref 62, .ref 63, .null]), (xI 8), (xI 192), (xI 192), (xI 192), (xI 192), (xI 192), (xI 192)]) rfl ?_
  refine wLan 59 i66_58 rfl rfl ?_
  refine wLin 60 i66_59 rfl rfl ?_
  refine wKb 62 8 i66_60 (by decide) rfl ?_
  refine wA 63 i66_62 rfl rfl rfl ?_
  refine tTop (v := 1536) (by decide) ?_
  refine eNewA (n := 64) (N := 1536) (c := (xJ 1536)) 1 1536 0 0 i66_63 (by decide) (by decide) rfl rfl rfl rfl ?_
  refine tHeap (h' := [c0, c1, c2, c3, c4, c5, c6, c7, c8, c9, c10, c11, c12, c13, c14, c15, c16, c17, c18, c19, c20, c21, c22, c23, c24, c25, c26, c27, c28, c29, c30, c31, c32, c33, c34, c35, c36, c37, c38, c39, c40, c41, c42, c43, c44, c45, c46, c47, c48, c49, c50, c51, c52, c53, c54, c55, .inr (4, [.ref 57, .ref 58, .ref 59, .ref 60, .ref 61, .ref 62, .ref 63, .null]), (xI 8), (xI 192), (xI 192), (xI 192), (xI 192), (xI 192), (xI 192), (xJ 1536)]) rfl ?_
  refine wPut 68 i66_65 p66_33 rfl (by decide) rfl rfl rfl ?_
  refine tHeap (h' := [c0, c1, c2, c3, c4, c5, c6, c7, c8, c9, c10, c11, c12, c13, c14, c15, c16, c17, c18, c19, c20, c21, c22, c23, c24, c25, c26, c27, c28, c29, c30, c31, c32, c33, c34, c35, c36, c37, c38, c39, c40, c41, c42, c43, c44, c45, c46, c47, c48, c49, c50, c51, c52, c53, c54, c55, .inr (4, [.ref 57, .ref 58, .ref 59, .ref 60, .ref 61, .ref 62, .ref 63, .ref 64]), (xI 8), (xI 192), (xI 192), (xI 192), (xI 192), (xI 192), (xI 192), (xJ 1536)]) rfl ?_
  refine wR0 i66_68 m66 ?_
  exact rfl
set_option maxHeartbeats 4000000 in
set_option maxRecDepth 100000 in
theorem k_Told_c {sc : xS} {d : Nat} (c0 c1 c2 c3 c4 c5 c6 c7 c8 c9 c10 c11 c12 c13 c14 c15 c16 c17 c18 c19 c20 c21 c22 c23 c24 c25 c26 c27 c28 c29 c30 c31 c32 c33 c34 c35 c36 c37 c38 c39 c40 c41 c42 c43 c44 c45 c46 c47 c48 c49 c50 c51 c52 c53 c54 c55 c56 c57 c58 c59 c60 c61 c62 c63 c64 : xE) : xT xg sc (d + 1) 73 0 [(0, .ref 65), (1, .int 192)] [] [c0, c1, c2, c3, c4, c5, c6, c7, c8, c9, c10, c11, c12, c13, c14, c15, c16, c17, c18, c19, c20, c21, c22, c23, c24, c25, c26, c27, c28, c29, c30, c31, c32, c33, c34, c35, c36, c37, c38, c39, c40, c41, c42, c43, c44, c45, c46, c47, c48, c49, c50, c51, c52, c53, c54, c55, c56, c57, c58, c59, c60, c61, c62, c63, c64, .inr (5, [.null, .null, .null, .null, .null, .null, .null, .null, .null, .null, .null, .int 0])] (fun r => r = (none, [c0, c1, c2, c3, c4, c5, c6, c7, c8, c9, c10, c11, c12, c13, c14, c15, c16, c17, c18, c19, c20, c21, c22, c23, c24, c25, c26, c27, c28, c29, c30, c31, c32, c33, c34, c35, c36, c37, c38, c39, c40, c41, c42, c43, c44, c45, c46, c47, c48, c49, c50, c51, c52, c53, c54, c55, c56, c57, c58, c59, c60, c61, c62, c63, c64, .inr (5, [.ref 66, .ref 67, .ref 68, .ref 69, .ref 70, .ref 71, .ref 72, .ref 73, .ref 74, .ref 75, .ref 76, .int 0]), (xI 192), (xI 192), .inl (.int, 192, .inl xOne), (xZ 192), (xI 192), (xI 192), (xB 12288), (xJ 12288), (xB 12288), (xZ 192), (xI 192)], 11, 38400)) := by
  refine wLan 1 i73_0 rfl rfl ?_
  refine tObj i73_1 l73_3 (by decide) ?_
  refine wLan 5 i73_4 rfl rfl ?_
  refine wK 6 0 i73_5 (by decide) rfl ?_
  refine wPut 9 i73_6 p73_9 rfl (by decide) rfl rfl rfl ?_
  refine tHeap (h' := [c0, c1, c2, c3, c4, c5, c6, c7, c8, c9, c10, c11, c12, c13, c14, c15, c16, c17, c18, c19, c20, c21, c22, c23, c24, c25, c26, c27, c28, c29, c30, c31, c32, c33, c34, c35, c36, c37, c38, c39, c40, c41, c42, c43, c44, c45, c46, c47, c48, c49, c50, c51, c52, c53, c54, c55, c56, c57, c58, c59, c60, c61, c62, c63, c64, .inr (5, [.null, .null, .null, .null, .null, .null, .null, .null, .null, .null, .null, .int 0])]) rfl ?_
  refine wLan 10 i73_9 rfl rfl ?_
  refine wLin 11 i73_10 rfl rfl ?_
  refine eNewA (n := 66) (N := 192) (c := (xI 192)) 11 38400 10 38208 i73_11 (by decide) (by decide) rfl rfl rfl rfl ?_
  refine tHeap (h' := [c0, c1, c2, c3, c4, c5, c6, c7, c8, c9, c10, c11, c12, c13, c14, c15, c16, c17, c18, c19, c20, c21, c22, c23, c24, c25, c26, c27, c28, c29, c30, c31, c32, c33, c34, c35, c36, c37, c38, c39, c40, c41, c42, c43, c44, c45, c46, c47, c48, c49, c50, c51, c52, c53, c54, c55, c56, c57, c58, c59, c60, c61, c62, c63, c64, .inr (5, [.null, .null, .null, .null, .null, .null, .null, .null, .null, .null, .null, .int 0]), (xI 192)]) rfl ?_
  refine wPut 16 i73_13 p73_15 rfl (by decide) rfl rfl rfl ?_
  refine tHeap (h' := [c0, c1, c2, c3, c4, c5, c6, c7, c8, c9, c10, c11, c12, c13, c14, c15, c16, c17, c18, c19, c20, c21, c22, c23, c24, c25, c26, c27, c28, c29, c30, c31, c32, c33, c34, c35, c36, c37, c38, c39, c40, c41, c42, c43, c44, c45, c46, c47, c48, c49, c50, c51, c52, c53, c54, c55, c56, c57, c58, c59, c60, c61, c62, c63, c64, .inr (5, [.ref 66, .null, .null, .null, .null, .null, .null, .null, .null, .null, .null, .int 0]), (xI 192)]) rfl ?_
  refine wLan 17 i73_16 rfl rfl ?_
  refine wLin 18 i73_17 rfl rfl ?_
  refine eNewA (n := 67) (N := 192) (c := (xI 192)) 10 38208 9 38016 i73_18 (by decide) (by decide) rfl rfl rfl rfl ?_
  refine tHeap (h' := [c0, c1, c2, c3, c4, c5, c6, c7, c8, c9, c10, c11, c12, c13, c14, c15, c16, c17, c18, c19, c20, c21, c22, c23, c24, c25, c26, c27, c28, c29, c30, c31, c32, c33, c34, c35, c36, c37, c38, c39, c40, c41, c42, c43, c44, c45, c46, c47, c48, c49, c50, c51, c52, c53, c54, c55, c56, c57, c58, c59, c60, c61, c62, c63, c64, .inr (5, [.ref 66, .null, .null, .null, .null, .null, .null, .null, .null, .null, .null, .int 0]), (xI 192), (xI 192)]) rfl ?_
  refine wPut 23 i73_20 p73_19 rfl (by decide) rfl rfl rfl ?_
  refine tHeap (h' := [c0, c1, c2, c3, c4, c5, c6, c7, c8, c9, c10, c11, c12, c13, c14, c15, c16, c17, c18, c19, c20, c21, c22, c23, c24, c25, c26, c27, c28, c29, c30, c31, c32, c33, c34, c35, c36, c37, c38, c39, c40, c41, c42, c43, c44, c45, c46, c47, c48, c49, c50, c51, c52, c53, c54, c55, c56, c57, c58, c59, c60, c61, c62, c63, c64, .inr (5, [.ref 66, .ref 67, .null, .null, .null, .null, .null, .null, .null, .null, .null, .int 0]), (xI 192), (xI 192)]) rfl ?_
  refine wLan 24 i73_23 rfl rfl ?_
  refine wLin 25 i73_24 rfl rfl ?_
  refine eNewA (n := 68) (N := 192) (c := (xI 192)) 9 38016 8 37824 i73_25 (by decide) (by decide) rfl rfl rfl rfl ?_
  refine tHeap (h' := [c0, c1, c2, c3, c4, c5, c6, c7, c8, c9, c10, c11, c12, c13, c14, c15, c16, c17, c18, c19, c20, c21, c22, c23, c24, c25, c26, c27, c28, c29, c30, c31, c32, c33, c34, c35, c36, c37, c38, c39, c40, c41, c42, c43, c44, c45, c46, c47, c48, c49, c50, c51, c52, c53, c54, c55, c56, c57, c58, c59, c60, c61, c62, c63, c64, .inr (5, [.ref 66, .ref 67, .null, .null, .null, .null, .null, .null, .null, .null, .null, .int 0]), (xI 192), (xI 192), (xI 192)]) rfl ?_
  refine wPut 30 i73_27 p73_22 rfl (by decide) rfl rfl rfl ?_
  refine tHeap (h' := [c0, c1, c2, c3, c4, c5, c6, c7, c8, c9, c10, c11, c12, c13, c14, c15, c16, c17, c18, c19, c20, c21, c22, c23, c24, c25, c26, c27, c28, c29, c30, c31, c32, c33, c34, c35, c36, c37, c38, c39, c40, c41, c42, c43, c44, c45, c46, c47, c48, c49, c50, c51, c52, c53, c54, c55, c56, c57, c58, c59, c60, c61, c62, c63, c64, .inr (5, [.ref 66, .ref 67, .ref 68, .null, .null, .null, .null, .null, .null, .null, .null, .int 0]), (xI 192), (xI 192), (xI 192)]) rfl ?_
  refine wLan 31 i73_30 rfl rfl ?_
  refine wLin 32 i73_31 rfl rfl ?_
  refine eNewA (n := 69) (N := 192) (c := (xZ 192)) 8 37824 7 37632 i73_32 (by decide) (by decide) rfl rfl rfl rfl ?_
  refine tHeap (h' := [c0, c1, c2, c3, c4, c5, c6, c7, c8, c9, c10, c11, c12, c13, c14, c15, c16, c17, c18, c19, c20, c21, c22, c23, c24, c25, c26, c27, c28, c29, c30, c31, c32, c33, c34, c35, c36, c37, c38, c39, c40, c41, c42, c43, c44, c45, c46, c47, c48, c49, c50, c51, c52, c53, c54, c55, c56, c57, c58, c59, c60, c61, c62, c63, c64, .inr (5, [.ref 66, .ref 67, .ref 68, .null, .null, .null, .null, .null, .null, .null, .null, .int 0]), (xI 192), (xI 192), (xI 192), (xZ 192)]) rfl ?_
  refine wPut 37 i73_34 p73_25 rfl (by decide) rfl rfl rfl ?_
  refine tHeap (h' := [c0, c1, c2, c3, c4, c5, c6, c7, c8, c9, c10, c11, c12, c13, c14, c15, c16, c17, c18, c19, c20, c21, c22, c23, c24, c25, c26, c27, c28, c29, c30, c31, c32, c33, c34, c35, c36, c37, c38, c39, c40, c41, c42, c43, c44, c45, c46, c47, c48, c49, c50, c51, c52, c53, c54, c55, c56, c57, c58, c59, c60, c61, c62, c63, c64, .inr (5, [.ref 66, .ref 67, .ref 68, .ref 69, .null, .null, .null, .null, .null, .null, .null, .int 0]), (xI 192), (xI 192), (xI 192), (xZ 192)]) rfl ?_
  refine wLan 38 i73_37 rfl rfl ?_
  refine wLin 39 i73_38 rfl rfl ?_
  refine eNewA (n := 70) (N := 192) (c := (xI 192)) 7 37632 6 37440 i73_39 (by decide) (by decide) rfl rfl rfl rfl ?_
  refine tHeap (h' := [c0, c1, c2, c3, c4, c5, c6, c7, c8, c9, c10, c11, c12, c13, c14, c15, c16, c17, c18, c19, c20, c21, c22, c23, c24, c25, c26, c27, c28, c29, c30, c31, c32, c33, c34, c35, c36, c37, c38, c39, c40, c41, c42, c43, c44, c45, c46, c47, c48, c49, c50, c51, c52, c53, c54, c55, c56, c57, c58, c59, c60, c61, c62, c63, c64, .inr (5, [.ref 66, .ref 67, .ref 68, .ref 69, .null, .null, .null, .null, .null, .null, .null, .int 0]), (xI 192), (xI 192), (xI 192), (xZ 192), (xI 192)]) rfl ?_
  refine wPut 44 i73_41 p73_29 rfl (by decide) rfl rfl rfl ?_
  refine tHeap (h' := [c0, c1, c2, c3, c4, c5, c6, c7, c8, c9, c10, c11, c12, c13, c14, c15, c16, c17, c18, c19, c20, c21, c22, c23, c24, c25, c26, c27, c28, c29, c30, c31, c32, c33, c34, c35, c36, c37, c38, c39, c40, c41, c42, c43, c44, c45, c46, c47, c48, c49, c50, c51, c52, c53, c54, c55, c56, c57, c58, c59, c60, c61, c62, c63, c64, .inr (5, [.ref 66, .ref 67, .ref 68, .ref 69, .ref 70, .null, .null, .null, .null, .null, .null, .int 0]), (xI 192), (xI 192), (xI 192), (xZ 192), (xI 192)]) rfl ?_
  refine wLan 45 i73_44 rfl rfl ?_
  refine wLin 46 i73_45 rfl rfl ?_
  refine eNewA (n := 71) (N := 192) (c := (xI 192)) 6 37440 5 37248 i73_46 (by decide) (by decide) rfl rfl rfl rfl ?_
  refine tHeap (h' := [c0, c1, c2, c3, c4, c5, c6, c7, c8, c9, c10, c11, c12, c13, c14, c15, c16, c17, c18, c19, c20, c21, c22, c23, c24, c25, c26, c27, c28, c29, c30, c31, c32, c33, c34, c35, c36, c37, c38, c39, c40, c41, c42, c43, c44, c45, c46, c47, c48, c49, c50, c51, c52, c53, c54, c55, c56, c57, c58, c59, c60, c61, c62, c63, c64, .inr (5, [.ref 66, .ref 67, .ref 68, .ref 69, .ref 70, .null, .null, .null, .null, .null, .null, .int 0]), (xI 192), (xI 192), (xI 192), (xZ 192), (xI 192), (xI 192)]) rfl ?_
  refine wPut 51 i73_48 p73_32 rfl (by decide) rfl rfl rfl ?_
  refine tHeap (h' := [c0, c1, c2, c3, c4, c5, c6, c7, c8, c9, c10, c11, c12, c13, c14, c15, c16, c17, c18, c19, c20, c21, c22, c23, c24, c25, c26, c27, c28, c29, c30, c31, c32, c33, c34, c35, c36, c37, c38, c39, c40, c41, c42, c43, c44, c45, c46, c47, c48, c49, c50, c51, c52, c53, c54, c55, c56, c57, c58, c59, c60, c61, c62, c63, c64, .inr (5, [.ref 66, .ref 67, .ref 68, .ref 69, .ref 70, .ref 71, .null, .null, .null, .null, .null, .int 0]), (xI 192), (xI 192), (xI 192), (xZ 192), (xI 192), (xI 192)]) rfl ?_
  refine wLan 52 i73_51 rfl rfl ?_
  refine wLin 53 i73_52 rfl rfl ?_
  refine wKb 55 64 i73_53 (by decide) rfl ?_
  refine wA 56 i73_55 rfl rfl rfl ?_
  refine tTop (v := 12288) (by decide) ?_
  refine eNewA (n := 72) (N := 12288) (c := (xB 12288)) 5 37248 4 24960 i73_56 (by decide) (by decide) rfl rfl rfl rfl ?_
  refine tHeap (h' := [c0, c1, c2, c3, c4, c5, c6, c7, c8, c9, c10, c11, c12, c13, c14, c15, c16, c17, c18, c19, c20, c21, c22, c23, c24, c25, c26, c27, c28, c29, c30, c31, c32, c33, c34, c35, c36, c37, c38, c39, c40, c41, c42, c43, c44, c45, c46, c47, c48, c49, c50, c51, c52, c53, c54, c55, c56, c57, c58, c59, c60, c61, c62, c63, c64, .inr (5, [.ref 66, .ref 67, .ref 68, .ref 69, .ref 70, .ref 71, .null, .null, .null, .null, .null, .int 0]), (xI 192), (xI 192), (xI 192), (xZ 192), (xI 192), (xI 192), (xB 12288)]) rfl ?_
  refine wPut 61 i73_58 p73_35 rfl (by decide) rfl rfl rfl ?_
  refine tHeap (h' := [c0, c1, c2, c3, c4, c5, c6, c7, c8, c9, c10, c11, c12, c13, c14, c15, c16, c17, c18, c19, c20, c21, c22, c23, c24, c25, c26, c27, c28, c29, c30, c31, c32, c33, c34, c35, c36, c37, c38, c39, c40, c41, c42, c43, c44, c45, c46, c47, c48, c49, c50, c51, c52, c53, c54, c55, c56, c57, c58, c59, c60, c61, c62, c63, c64, .inr (5, [.ref 66, .ref 67, .ref 68, .ref 69, .ref 70, .ref 71, .ref 72, .null, .null, .null, .null, .int 0]), (xI 192), (xI 192), (xI 192), (xZ 192), (xI 192), (xI 192), (xB 12288)]) rfl ?_
  refine wLan 62 i73_61 rfl rfl ?_
  refine wLin 63 i73_62 rfl rfl ?_
  refine wKb 65 64 i73_63 (by decide) rfl ?_
  refine wA 66 i73_65 rfl rfl rfl ?_
  refine tTop (v := 12288) (by decide) ?_
  refine eNewA (n := 73) (N := 12288) (c := (xJ 12288)) 4 24960 3 12672 i73_66 (by decide) (by decide) rfl rfl rfl rfl ?_
  refine tHeap (h' := [c0, c1, c2, c3, c4, c5, c6, c7, c8, c9, c10, c11, c12, c13, c14, c15, c16, c17, c18, c19, c20, c21, c22, c23, c24, c25, c26, c27, c28, c29, c30, c31, c32, c33, c34, c35, c36, c37, c38, c39, c40, c41, c42, c43, c44, c45, c46, c47, c48, c49, c50, c51, c52, c53, c54, c55, c56, c57, c58, c59, c60, c61, c62, c63, c64, .inr (5, [.ref 66, .ref 67, .ref 68, .ref 69, .ref 70, .ref 71, .ref 72, .null, .null, .null, .null, .int 0]), (xI 192), (xI 192), (xI 192), (xZ 192), (xI 192), (xI 192), (xB 12288), (xJ 12288)]) rfl ?_
  refine wPut 71 i73_68 p73_39 rfl (by decide) rfl rfl rfl ?_
  refine tHeap (h' := [c0, c1, c2, c3, c4, c5, c6, c7, c8, c9, c10, c11, c12, c13, c14, c15, c16, c17, c18, c19, c20, c21, c22, c23, c24, c25, c26, c27, c28, c29, c30, c31, c32, c33, c34, c35, c36, c37, c38, c39, c40, c41, c42, c43, c44, c45, c46, c47, c48, c49, c50, c51, c52, c53, c54, c55, c56, c57, c58, c59, c60, c61, c62, c63, c64, .inr (5, [.ref 66, .ref 67, .ref 68, .ref 69, .ref 70, .ref 71, .ref 72, .ref 73, .null, .null, .null, .int 0]), (xI 192), (xI 192), (xI 192), (xZ 192), (xI 192), (xI 192), (xB 12288), (xJ 12288)]) rfl ?_
  refine wLan 72 i73_71 rfl rfl ?_
  refine wLin 73 i73_72 rfl rfl ?_
  refine wKb 75 64 i73_73 (by decide) rfl ?_
  refine wA 76 i73_75 rfl rfl rfl ?_
  refine tTop (v := 12288) (by decide) ?_
  refine eNewA (n := 74) (N := 12288) (c := (xB 12288)) 3 12672 2 384 i73_76 (by decide) (by decide) rfl rfl rfl rfl ?_
  refine tHeap (h' := [c0, c1, c2, c3, c4, c5, c6, c7, c8, c9, c10, c11, c12, c13, c14, c15, c16, c17, c18, c19, c20, c21, c22, c23, c24, c25, c26, c27, c28, c29, c30, c31, c32, c33, c34, c35, c36, c37, c38, c39, c40, c41, c42, c43, c44, c45, c46, c47, c48, c49, c50, c51, c52, c53, c54, c55, c56, c57, c58, c59, c60, c61, c62, c63, c64, .inr (5, [.ref 66, .ref 67, .ref 68, .ref 69, .ref 70, .ref 71, .ref 72, .ref 73, .null, .null, .null, .int 0]), (xI 192), (xI 192), (xI 192), (xZ 192), (xI 192), (xI 192), (xB 12288), (xJ 12288), (xB 12288)]) rfl ?_
  refine wPut 81 i73_78 p73_43 rfl (by decide) rfl rfl rfl ?_
  refine tHeap (h' := [c0, c1, c2, c3, c4, c5, c6, c7, c8, c9, c10, c11, c12, c13, c14, c15, c16, c17, c18, c19, c20, c21, c22, c23, c24, c25, c26, c27, c28, c29, c30, c31, c32, c33, c34, c35, c36, c37, c38, c39, c40, c41, c42, c43, c44, c45, c46, c47, c48, c49, c50, c51, c52, c53, c54, c55, c56, c57, c58, c59, c60, c61, c62, c63, c64, .inr (5, [.ref 66, .ref 67, .ref 68, .ref 69, .ref 70, .ref 71, .ref 72, .ref 73, .ref 74, .null, .null, .int 0]), (xI 192), (xI 192), (xI 192), (xZ 192), (xI 192), (xI 192), (xB 12288), (xJ 12288), (xB 12288)]) rfl ?_
  refine wLan 82 i73_81 rfl rfl ?_
  refine wLin 83 i73_82 rfl rfl ?_
  refine eNewA (n := 75) (N := 192) (c := (xZ 192)) 2 384 1 192 i73_83 (by decide) (by decide) rfl rfl rfl rfl ?_
  refine tHeap (h' := [c0, c1, c2, c3, c4, c5, c6, c7, c8, c9, c10, c11, c12, c13, c14, c15, c16, c17, c18, c19, c20, c21, c22, c23, c24, c25, c26, c27, c28, c29, c30, c31, c32, c33, c34, c35, c36, c37, c38, c39, c40, c41, c42, c43, c44, c45, c46, c47, c48, c49, c50, c51, c52, c53, c54, c55, c56, c57, c58, c59, c60, c61, c62, c63, c64, .inr (5, [.ref 66, .ref 67, .ref 68, .ref 69, .ref 70, .ref 71, .ref 72, .ref 73, .ref 74, .null, .null, .int 0]), (xI 192), (xI 192), (xI 192), (xZ 192), (xI 192), (xI 192), (xB 12288), (xJ 12288), (xB 12288), (xZ 192)]) rfl ?_
  refine wPut 88 i73_85 p73_46 rfl (by decide) rfl rfl rfl ?_
  refine tHeap (h' := [c0, c1, c2, c3, c4, c5, c6, c7, c8, c9, c10, c11, c12, c13, c14, c15, c16, c17, c18, c19, c20, c21, c22, c23, c24, c25, c26, c27, c28, c29, c30, c31, c32, c33, c34, c35, c36, c37, c38, c39, c40, c41, c42, c43, c44, c45, c46, c47, c48, c49, c50, c51, c52, c53, c54, c55, c56, c57, c58, c59, c60, c61, c62, c63, c64, .inr (5, [.ref 66, .ref 67, .ref 68, .ref 69, .ref 70, .ref 71, .ref 72, .ref 73, .ref 74, .ref 75, .null, .int 0]), (xI 192), (xI 192), (xI 192), (xZ 192), (xI 192), (xI 192), (xB 12288), (xJ 12288), (xB 12288), (xZ 192)]) rfl ?_
  refine wLan 89 i73_88 rfl rfl ?_
  refine wLin 90 i73_89 rfl rfl ?_
  refine eNewA (n := 76) (N := 192) (c := (xI 192)) 1 192 0 0 i73_90 (by decide) (by decide) rfl rfl rfl rfl ?_
  refine tHeap (h' := [c0, c1, c2, c3, c4, c5, c6, c7, c8, c9, c10, c11, c12, c13, c14, c15, c16, c17, c18, c19, c20, c21, c22, c23, c24, c25, c26, c27, c28, c29, c30, c31, c32, c33, c34, c35, c36, c37, c38, c39, c40, c41, c42, c43, c44, c45, c46, c47, c48, c49, c50, c51, c52, c53, c54, c55, c56, c57, c58, c59, c60, c61, c62, c63, c64, .inr (5, [.ref 66, .ref 67, .ref 68, .ref 69, .ref 70, .ref 71, .ref 72, .ref 73, .ref 74, .ref 75, .null, .int 0]), (xI 192), (xI 192), (xI 192), (xZ 192), (xI 192), (xI 192), (xB 12288), (xJ 12288), (xB 12288), (xZ 192), (xI 192)]) rfl ?_
  refine wPut 95 i73_92 p73_49 rfl (by decide) rfl rfl rfl ?_
  refine tHeap (h' := [c0, c1, c2, c3, c4, c5, c6, c7, c8, c9, c10, c11, c12, c13, c14, c15, c16, c17, c18, c19, c20, c21, c22, c23, c24, c25, c26, c27, c28, c29, c30, c31, c32, c33, c34, c35, c36, c37, c38, c39, c40, c41, c42, c43, c44, c45, c46, c47, c48, c49, c50, c51, c52, c53, c54, c55, c56, c57, c58, c59, c60, c61, c62, c63, c64, .inr (5, [.ref 66, .ref 67, .ref 68, .ref 69, .ref 70, .ref 71, .ref 72, .ref 73, .ref 74, .ref 75, .ref 76, .int 0]), (xI 192), (xI 192), (xI 192), (xZ 192), (xI 192), (xI 192), (xB 12288), (xJ 12288), (xB 12288), (xZ 192), (xI 192)]) rfl ?_
  refine wK 96 0 i73_95 (by decide) rfl ?_
  refine wSin 97 [(2, .int 0), (0, .ref 65), (1, .int 192)] i73_96 m73 (by decide) rfl rfl ?_
  refine told_fill 65 68 _ rfl (by decide) 192 0 0 _ (fun _ => 0) rfl rfl rfl rfl (fun j hj => absurd hj (Nat.not_lt_zero j)) (fun _ _ => rfl) ?_
  refine tHeap (h' := [c0, c1, c2, c3, c4, c5, c6, c7, c8, c9, c10, c11, c12, c13, c14, c15, c16, c17, c18, c19, c20, c21, c22, c23, c24, c25, c26, c27, c28, c29, c30, c31, c32, c33, c34, c35, c36, c37, c38, c39, c40, c41, c42, c43, c44, c45, c46, c47, c48, c49, c50, c51, c52, c53, c54, c55, c56, c57, c58, c59, c60, c61, c62, c63, c64, .inr (5, [.ref 66, .ref 67, .ref 68, .ref 69, .ref 70, .ref 71, .ref 72, .ref 73, .ref 74, .ref 75, .ref 76, .int 0]), (xI 192), (xI 192), .inl (.int, 192, .inl xOne), (xZ 192), (xI 192), (xI 192), (xB 12288), (xJ 12288), (xB 12288), (xZ 192), (xI 192)]) rfl ?_
  refine wR0 i73_115 m73 ?_
  exact rfl
set_option maxHeartbeats 4000000 in
set_option maxRecDepth 100000 in
theorem k_LateRows {sc : xS} {d : Nat} : xT xg sc (d + 3) 93 0 [(0, .ref 0)] [] [.inr (6, [.null, .null, .null, .null, .null, .null, .null, .null, .null, .null, .int 0, .int 0, .int 0, .int 0])] (fun r => r = (none, [.inr (6, [.ref 1, .ref 15, .ref 17, .ref 26, .ref 38, .ref 50, .ref 51, .ref 55, .ref 56, .ref 65, .int 99, .int 0, .int 99, .int 0]), .inr (1, [.ref 2, .int 0, .ref 11, .ref 12, .ref 13, .ref 14, .int 0, .int (-1)]), .inr (4, [.ref 3, .ref 4, .ref 5, .ref 6, .ref 7, .ref 8, .ref 9, .ref 10]), (xI 1), (xI 24), (xI 24), (xI 24), (xI 24), (xI 24), (xI 24), (xJ 192), (xI 120), (xI 121), (xI 121), (xI 121), .inr (0, [.ref 16, .int 0]), (xI 1024), .inr (4, [.ref 18, .ref 19, .ref 20, .ref 21, .ref 22, .ref 23, .ref 24, .ref 25]), (xI 8), (xI 192), (xI 192), (xI 192), (xI 192), (xI 192), (xI 192), (xJ 1536), .inr (5, [.ref 27, .ref 28, .ref 29, .ref 30, .ref 31, .ref 32, .ref 33, .ref 34, .ref 35, .ref 36, .ref 37, .int 0]), (xI 192), (xI 192), .inl (.int, 192, .inl xOne), (xZ 192), (xI 192), (xI 192), (xB 12288), (xJ 12288), (xB 12288), (xZ 192), (xI 192), .inr (5, [.ref 39, .ref 40, .ref 41, .ref 42, .ref 43, .ref 44, .ref 45, .ref 46, .ref 47, .ref 48, .ref 49, .int 0]), (xI 192), (xI 192), .inl (.int, 192, .inl xOne), (xZ 192), (xI 192), (xI 192), (xB 12288), (xJ 12288), (xB 12288), (xZ 192), (xI 192), .inr (3, [.ref 17, .ref 26, .int 0, .int 0, .long 0]), .inr (2, [.ref 52, .ref 53, .ref 54]), .inl (.int, 4, .inl (upd (upd (upd (upd (fun _ => 0) 0 (-1)) 1 (-1)) 2 (-1)) 3 (-1))), (xI 4), (xJ 160), (xJ 16), .inr (4, [.ref 57, .ref 58, .ref 59, .ref 60, .ref 61, .ref 62, .ref 63, .ref 64]), (xI 8), (xI 192), (xI 192), (xI 192), (xI 192), (xI 192), (xI 192), (xJ 1536), .inr (5, [.ref 66, .ref 67, .ref 68, .ref 69, .ref 70, .ref 71, .ref 72, .ref 73, .ref 74, .ref 75, .ref 76, .int 0]), (xI 192), (xI 192), .inl (.int, 192, .inl xOne), (xZ 192), (xI 192), (xI 192), (xB 12288), (xJ 12288), (xB 12288), (xZ 192), (xI 192)], 76, 122698)) := by
  refine wLan 1 i93_0 rfl rfl ?_
  refine tObj i93_1 l93_1 (by decide) ?_
  refine wLan 5 i93_4 rfl rfl ?_
  refine eNew (n := 1) (N := 8) 76 122698 75 122690 i93_5 n93_7 rfl rfl rfl rfl ?_
  refine tHeap (h' := [.inr (6, [.null, .null, .null, .null, .null, .null, .null, .null, .null, .null, .int 0, .int 0, .int 0, .int 0]), .inr (1, [.null, .int 0, .null, .null, .null, .null, .int 0, .int 0])]) rfl ?_
  refine wD 9 i93_8 rfl rfl rfl ?_
  refine eCallV 12 [.ref 1] [.ref 1, .ref 0] 75 122690 62 121862 i93_9 rfl (xlk5 l93_9) (Or.inr (Or.inr (Or.inr rfl))) m17 rfl rfl (by decide) (by decide) (by decide) rfl rfl (k_Reader_1 _) rfl rfl ?_
  refine wPut 15 i93_12 p93_10 rfl (by decide) rfl rfl rfl ?_
  refine tHeap (h' := [.inr (6, [.ref 1, .null, .null, .null, .null, .null, .null, .null, .null, .null, .int 0, .int 0, .int 0, .int 0]), .inr (1, [.ref 2, .int 0, .ref 11, .ref 12, .ref 13, .ref 14, .int 0, .int (-1)]), .inr (4, [.ref 3, .ref 4, .ref 5, .ref 6, .ref 7, .ref 8, .ref 9, .ref 10]), (xI 1), (xI 24), (xI 24), (xI 24), (xI 24), (xI 24), (xI 24), (xJ 192), (xI 120), (xI 121), (xI 121), (xI 121)]) rfl ?_
  refine wLan 16 i93_15 rfl rfl ?_
  refine eNew (n := 15) (N := 2) 62 121862 61 121860 i93_16 n93_16 rfl rfl rfl rfl ?_
  refine tHeap (h' := [.inr (6, [.ref 1, .null, .null, .null, .null, .null, .null, .null, .null, .null, .int 0, .int 0, .int 0, .int 0]), .inr (1, [.ref 2, .int 0, .ref 11, .ref 12, .ref 13, .ref 14, .int 0, .int (-1)]), .inr (4, [.ref 3, .ref 4, .ref 5, .ref 6, .ref 7, .ref 8, .ref 9, .ref 10]), (xI 1), (xI 24), (xI 24), (xI 24), (xI 24), (xI 24), (xI 24), (xJ 192), (xI 120), (xI 121), (xI 121), (xI 121), .inr (0, [.null, .int 0])]) rfl ?_
  refine wD 20 i93_19 rfl rfl rfl ?_
  refine eCallV 23 [.ref 15] [.ref 15, .ref 0] 61 121860 60 120836 i93_20 rfl (xlk5 l93_18) (Or.inr (Or.inr (Or.inr rfl))) m6 rfl rfl (by decide) (by decide) (by decide) rfl rfl (k_Printer _ _ _ _ _ _ _ _ _ _ _ _ _ _ _) rfl rfl ?_
  refine wPut 26 i93_23 p93_19 rfl (by decide) rfl rfl rfl ?_
  refine tHeap (h' := [.inr (6, [.ref 1, .ref 15, .null, .null, .null, .null, .null, .null, .null, .null, .int 0, .int 0, .int 0, .int 0]), .inr (1, [.ref 2, .int 0, .ref 11, .ref 12, .ref 13, .ref 14, .int 0, .int (-1)]), .inr (4, [.ref 3, .ref 4, .ref 5, .ref 6, .ref 7, .ref 8, .ref 9, .ref 10]), (xI 1), (xI 24), (xI 24), (xI 24), (xI 24), (xI 24), (xI 24), (xJ 192), (xI 120), (xI 121), (xI 121), (xI 121), .inr (0, [.ref 16, .int 0]), (xI 1024)]) rfl ?_
  refine wLan 27 i93_26 rfl rfl ?_
  refine eNew (n := 17) (N := 8) 60 120836 59 120828 i93_27 n93_23 rfl rfl rfl rfl ?_
  refine tHeap (h' := [.inr (6, [.ref 1, .ref 15, .null, .null, .null, .null, .null, .null, .null, .null, .int 0, .int 0, .int 0, .int 0]), .inr (1, [.ref 2, .int 0, .ref 11, .ref 12, .ref 13, .ref 14, .int 0, .int (-1)]), .inr (4, [.ref 3, .ref 4, .ref 5, .ref 6, .ref 7, .ref 8, .ref 9, .ref 10]), (xI 1), (xI 24), (xI 24), (xI 24), (xI 24), (xI 24), (xI 24), (xJ 192), (xI 120), (xI 121), (xI 121), (xI 121), .inr (0, [.ref 16, .int 0]), (xI 1024), .inr (4, [.null, .null, .null, .null, .null, .null, .null, .null])]) rfl ?_
  refine wD 31 i93_30 rfl rfl rfl ?_
  refine wKb 33 8 i93_31 (by decide) rfl ?_
  refine eCallV 36 [.ref 17, .int 8] [.ref 17, .ref 0] 59 120828 51 118132 i93_33 rfl (xlk4 l93_25) (Or.inr (Or.inr (Or.inl rfl))) m66 rfl rfl (by decide) (by decide) (by decide) rfl rfl (k_Texts_a _ _ _ _ _ _ _ _ _ _ _ _ _ _ _ _ _) rfl rfl ?_
  refine wPut 39 i93_36 p93_28 rfl (by decide) rfl rfl rfl ?_
  refine tHeap (h' := [.inr (6, [.ref 1, .ref 15, .ref 17, .null, .null, .null, .null, .null, .null, .null, .int 0, .int 0, .int 0, .int 0]), .inr (1, [.ref 2, .int 0, .ref 11, .ref 12, .ref 13, .ref 14, .int 0, .int (-1)]), .inr (4, [.ref 3, .ref 4, .ref 5, .ref 6, .ref 7, .ref 8, .ref 9, .ref 10]), (xI 1), (xI 24), (xI 24), (xI 24), (xI 24), (xI 24), (xI 24), (xJ 192), (xI 120), (xI 121), (xI 121), (xI 121), .inr (0, [.ref 16, .int 0]), (xI 1024), .inr (4, [.ref 18, .ref 19, .ref 20, .ref 21, .ref 22, .ref 23, .ref 24, .ref 25]), (xI 8), (xI 192), (xI 192), (xI 192), (xI 192), (xI 192), (xI 192), (xJ 1536)]) rfl ?_
  refine wLan 40 i93_39 rfl rfl ?_
  refine eNew (n := 26) (N := 12) 51 118132 50 118120 i93_40 n93_32 rfl rfl rfl rfl ?_
  refine tHeap (h' := [.inr (6, [.ref 1, .ref 15, .ref 17, .null, .null, .null, .null, .null, .null, .null, .int 0, .int 0, .int 0, .int 0]), .inr (1, [.ref 2, .int 0, .ref 11, .ref 12, .ref 13, .ref 14, .int 0, .int (-1)]), .inr (4, [.ref 3, .ref 4, .ref 5, .ref 6, .ref 7, .ref 8, .ref 9, .ref 10]), (xI 1), (xI 24), (xI 24), (xI 24), (xI 24), (xI 24), (xI 24), (xJ 192), (xI 120), (xI 121), (xI 121), (xI 121), .inr (0, [.ref 16, .int 0]), (xI 1024), .inr (4, [.ref 18, .ref 19, .ref 20, .ref 21, .ref 22, .ref 23, .ref 24, .ref 25]), (xI 8), (xI 192), (xI 192), (xI 192), (xI 192), (xI 192), (xI 192), (xJ 1536), .inr (5, [.null, .null, .null, .null, .null, .null, .null, .null, .null, .null, .null, .int 0])]) rfl ?_
  refine wD 44 i93_43 rfl rfl rfl ?_
  refine wKs 47 192 i93_44 (by decide) rfl ?_
  refine eCallV 50 [.ref 26, .int 192] [.ref 26, .ref 0] 50 118120 39 79720 i93_47 rfl (xlk4 l93_34) (Or.inr (Or.inr (Or.inl rfl))) m73 rfl rfl (by decide) (by decide) (by decide) rfl rfl (k_Told_a _ _ _ _ _ _ _ _ _ _ _ _ _ _ _ _ _ _ _ _ _ _ _ _ _ _) rfl rfl ?_
  refine wPut 53 i93_50 p93_35 rfl (by decide) rfl rfl rfl ?_
  refine tHeap (h' := [.inr (6, [.ref 1, .ref 15, .ref 17, .ref 26, .null, .null, .null, .null, .null, .null, .int 0, .int 0, .int 0, .int 0]), .inr (1, [.ref 2, .int 0, .ref 11, .ref 12, .ref 13, .ref 14, .int 0, .int (-1)]), .inr (4, [.ref 3, .ref 4, .ref 5, .ref 6, .ref 7, .ref 8, .ref 9, .ref 10]), (xI 1), (xI 24), (xI 24), (xI 24), (xI 24), (xI 24), (xI 24), (xJ 192), (xI 120), (xI 121), (xI 121), (xI 121), .inr (0, [.ref 16, .int 0]), (xI 1024), .inr (4, [.ref 18, .ref 19, .ref 20, .ref 21, .ref 22, .ref 23, .ref 24, .ref 25]), (xI 8), (xI 192), (xI 192), (xI 192), (xI 192), (xI 192), (xI 192), (xJ 1536), .inr (5, [.ref 27, .ref 28, .ref 29, .ref 30, .ref 31, .ref 32, .ref 33, .ref 34, .ref 35, .ref 36, .ref 37, .int 0]), (xI 192), (xI 192), .inl (.int, 192, .inl xOne), (xZ 192), (xI 192), (xI 192), (xB 12288), (xJ 12288), (xB 12288), (xZ 192), (xI 192)]) rfl ?_
  refine wLan 54 i93_53 rfl rfl ?_
  refine eNew (n := 38) (N := 12) 39 79720 38 79708 i93_54 n93_32 rfl rfl rfl rfl ?_
  refine tHeap (h' := [.inr (6, [.ref 1, .ref 15, .ref 17, .ref 26, .null, .null, .null, .null, .null, .null, .int 0, .int 0, .int 0, .int 0]), .inr (1, [.ref 2, .int 0, .ref 11, .ref 12, .ref 13, .ref 14, .int 0, .int (-1)]), .inr (4, [.ref 3, .ref 4, .ref 5, .ref 6, .ref 7, .ref 8, .ref 9, .ref 10]), (xI 1), (xI 24), (xI 24), (xI 24), (xI 24), (xI 24), (xI 24), (xJ 192), (xI 120), (xI 121), (xI 121), (xI 121), .inr (0, [.ref 16, .int 0]), (xI 1024), .inr (4, [.ref 18, .ref 19, .ref 20, .ref 21, .ref 22, .ref 23, .ref 24, .ref 25]), (xI 8), (xI 192), (xI 192), (xI 192), (xI 192), (xI 192), (xI 192), (xJ 1536), .inr (5, [.ref 27, .ref 28, .ref 29, .ref 30, .ref 31, .ref 32, .ref 33, .ref 34, .ref 35, .ref 36, .ref 37, .int 0]), (xI 192), (xI 192), .inl (.int, 192, .inl xOne), (xZ 192), (xI 192), (xI 192), (xB 12288), (xJ 12288), (xB 12288), (xZ 192), (xI 192), .inr (5, [.null, .null, .null, .null, .null, .null, .null, .null, .null, .null, .null, .int 0])]) rfl ?_
  refine wD 58 i93_57 rfl rfl rfl ?_
  refine wKs 61 192 i93_58 (by decide) rfl ?_
  refine eCallV 64 [.ref 38, .int 192] [.ref 38, .ref 0] 38 79708 27 41308 i93_61 rfl (xlk4 l93_34) (Or.inr (Or.inr (Or.inl rfl))) m73 rfl rfl (by decide) (by decide) (by decide) rfl rfl (k_Told_b _ _ _ _ _ _ _ _ _ _ _ _ _ _ _ _ _ _ _ _ _ _ _ _ _ _ _ _ _ _ _ _ _ _ _ _ _ _) rfl rfl ?_
  refine wPut 67 i93_64 p93_39 rfl (by decide) rfl rfl rfl ?_
  refine tHeap (h' := [.inr (6, [.ref 1, .ref 15, .ref 17, .ref 26, .ref 38, .null, .null, .null, .null, .null, .int 0, .int 0, .int 0, .int 0]), .inr (1, [.ref 2, .int 0, .ref 11, .ref 12, .ref 13, .ref 14, .int 0, .int (-1)]), .inr (4, [.ref 3, .ref 4, .ref 5, .ref 6, .ref 7, .ref 8, .ref 9, .ref 10]), (xI 1), (xI 24), (xI 24), (xI 24), (xI 24), (xI 24), (xI 24), (xJ 192), (xI 120), (xI 121), (xI 121), (xI 121), .inr (0, [.ref 16, .int 0]), (xI 1024), .inr (4, [.ref 18, .ref 19, .ref 20, .ref 21, .ref 22, .ref 23, .ref 24, .ref 25]), (xI 8), (xI 192), (xI 192), (xI 192), (xI 192), (xI 192), (xI 192), (xJ 1536), .inr (5, [.ref 27, .ref 28, .ref 29, .ref 30, .ref 31, .ref 32, .ref 33, .ref 34, .ref 35, .ref 36, .ref 37, .int 0]), (xI 192), (xI 192), .inl (.int, 192, .inl xOne), (xZ 192), (xI 192), (xI 192), (xB 12288), (xJ 12288), (xB 12288), (xZ 192), (xI 192), .inr (5, [.ref 39, .ref 40, .ref 41, .ref 42, .ref 43, .ref 44, .ref 45, .ref 46, .ref 47, .ref 48, .ref 49, .int 0]), (xI 192), (xI 192), .inl (.int, 192, .inl xOne), (xZ 192), (xI 192), (xI 192), (xB 12288), (xJ 12288), (xB 12288), (xZ 192), (xI 192)]) rfl ?_
  refine wLan 68 i93_67 rfl rfl ?_
  refine eNew (n := 50) (N := 5) 27 41308 26 41303 i93_68 n93_42 rfl rfl rfl rfl ?_
  refine tHeap (h' := [.inr (6, [.ref 1, .ref 15, .ref 17, .ref 26, .ref 38, .null, .null, .null, .null, .null, .int 0, .int 0, .int 0, .int 0]), .inr (1, [.ref 2, .int 0, .ref 11, .ref 12, .ref 13, .ref 14, .int 0, .int (-1)]), .inr (4, [.ref 3, .ref 4, .ref 5, .ref 6, .ref 7, .ref 8, .ref 9, .ref 10]), (xI 1), (xI 24), (xI 24), (xI 24), (xI 24), (xI 24), (xI 24), (xJ 192), (xI 120), (xI 121), (xI 121), (xI 121), .inr (0, [.ref 16, .int 0]), (xI 1024), .inr (4, [.ref 18, .ref 19, .ref 20, .ref 21, .ref 22, .ref 23, .ref 24, .ref 25]), (xI 8), (xI 192), (xI 192), (xI 192), (xI 192), (xI 192), (xI 192), (xJ 1536), .inr (5, [.ref 27, .ref 28, .ref 29, .ref 30, .ref 31, .ref 32, .ref 33, .ref 34, .ref 35, .ref 36, .ref 37, .int 0]), (xI 192), (xI 192), .inl (.int, 192, .inl xOne), (xZ 192), (xI 192), (xI 192), (xB 12288), (xJ 12288), (xB 12288), (xZ 192), (xI 192), .inr (5, [.ref 39, .ref 40, .ref 41, .ref 42, .ref 43, .ref 44, .ref 45, .ref 46, .ref 47, .ref 48, .ref 49, .int 0]), (xI 192), (xI 192), .inl (.int, 192, .inl xOne), (xZ 192), (xI 192), (xI 192), (xB 12288), (xJ 12288), (xB 12288), (xZ 192), (xI 192), .inr (3, [.null, .null, .int 0, .int 0, .long 0])]) rfl ?_
  refine wD 72 i93_71 rfl rfl rfl ?_
  refine wLan 73 i93_72 rfl rfl ?_
  refine wGet 76 (.ref 17) i93_73 f93_28 rfl rfl rfl ?_
  refine wLan 77 i93_76 rfl rfl ?_
  refine wGet 80 (.ref 26) i93_77 f93_35 rfl rfl rfl ?_
  refine eCallV 83 [.ref 50, .ref 17, .ref 26] [.ref 50, .ref 0] 26 41303 26 41303 i93_80 rfl (xlk4 l93_44) (Or.inr (Or.inr (Or.inl rfl))) m48 rfl rfl (by decide) (by decide) (by decide) rfl rfl (k_Teller _ _ _ _ _ _ _ _ _ _ _ _ _ _ _ _ _ _ _ _ _ _ _ _ _ _ _ _ _ _ _ _ _ _ _ _ _ _ _ _ _ _ _ _ _ _ _ _ _ _) rfl rfl ?_
  refine wPut 86 i93_83 p93_47 rfl (by decide) rfl rfl rfl ?_
  refine tHeap (h' := [.inr (6, [.ref 1, .ref 15, .ref 17, .ref 26, .ref 38, .ref 50, .null, .null, .null, .null, .int 0, .int 0, .int 0, .int 0]), .inr (1, [.ref 2, .int 0, .ref 11, .ref 12, .ref 13, .ref 14, .int 0, .int (-1)]), .inr (4, [.ref 3, .ref 4, .ref 5, .ref 6, .ref 7, .ref 8, .ref 9, .ref 10]), (xI 1), (xI 24), (xI 24), (xI 24), (xI 24), (xI 24), (xI 24), (xJ 192), (xI 120), (xI 121), (xI 121), (xI 121), .inr (0, [.ref 16, .int 0]), (xI 1024), .inr (4, [.ref 18, .ref 19, .ref 20, .ref 21, .ref 22, .ref 23, .ref 24, .ref 25]), (xI 8), (xI 192), (xI 192), (xI 192), (xI 192), (xI 192), (xI 192), (xJ 1536), .inr (5, [.ref 27, .ref 28, .ref 29, .ref 30, .ref 31, .ref 32, .ref 33, .ref 34, .ref 35, .ref 36, .ref 37, .int 0]), (xI 192), (xI 192), .inl (.int, 192, .inl xOne), (xZ 192), (xI 192), (xI 192), (xB 12288), (xJ 12288), (xB 12288), (xZ 192), (xI 192), .inr (5, [.ref 39, .ref 40, .ref 41, .ref 42, .ref 43, .ref 44, .ref 45, .ref 46, .ref 47, .ref 48, .ref 49, .int 0]), (xI 192), (xI 192), .inl (.int, 192, .inl xOne), (xZ 192), (xI 192), (xI 192), (xB 12288), (xJ 12288), (xB 12288), (xZ 192), (xI 192), .inr (3, [.ref 17, .ref 26, .int 0, .int 0, .long 0])]) rfl ?_
  refine wLan 87 i93_86 rfl rfl ?_
  refine eNew (n := 51) (N := 3) 26 41303 25 41300 i93_87 n93_51 rfl rfl rfl rfl ?_
  refine tHeap (h' := [.inr (6, [.ref 1, .ref 15, .ref 17, .ref 26, .ref 38, .ref 50, .null, .null, .null, .null, .int 0, .int 0, .int 0, .int 0]), .inr (1, [.ref 2, .int 0, .ref 11, .ref 12, .ref 13, .ref 14, .int 0, .int (-1)]), .inr (4, [.ref 3, .ref 4, .ref 5, .ref 6, .ref 7, .ref 8, .ref 9, .ref 10]), (xI 1), (xI 24), (xI 24), (xI 24), (xI 24), (xI 24), (xI 24), (xJ 192), (xI 120), (xI 121), (xI 121), (xI 121), .inr (0, [.ref 16, .int 0]), (xI 1024), .inr (4, [.ref 18, .ref 19, .ref 20, .ref 21, .ref 22, .ref 23, .ref 24, .ref 25]), (xI 8), (xI 192), (xI 192), (xI 192), (xI 192), (xI 192), (xI 192), (xJ 1536), .inr (5, [.ref 27, .ref 28, .ref 29, .ref 30, .ref 31, .ref 32, .ref 33, .ref 34, .ref 35, .ref 36, .ref 37, .int 0]), (xI 192), (xI 192), .inl (.int, 192, .inl xOne), (xZ 192), (xI 192), (xI 192), (xB 12288), (xJ 12288), (xB 12288), (xZ 192), (xI 192), .inr (5, [.ref 39, .ref 40, .ref 41, .ref 42, .ref 43, .ref 44, .ref 45, .ref 46, .ref 47, .ref 48, .ref 49, .int 0]), (xI 192), (xI 192), .inl (.int, 192, .inl xOne), (xZ 192), (xI 192), (xI 192), (xB 12288), (xJ 12288), (xB 12288), (xZ 192), (xI 192), .inr (3, [.ref 17, .ref 26, .int 0, .int 0, .long 0]), .inr (2, [.null, .null, .null])]) rfl ?_
  refine wD 91 i93_90 rfl rfl rfl ?_
  refine eCallV 94 [.ref 51] [.ref 51, .ref 0] 25 41300 22 41132 i93_91 rfl (xlk4 l93_53) (Or.inr (Or.inr (Or.inl rfl))) m32 rfl rfl (by decide) (by decide) (by decide) rfl rfl (k_Sheets _ _ _ _ _ _ _ _ _ _ _ _ _ _ _ _ _ _ _ _ _ _ _ _ _ _ _ _ _ _ _ _ _ _ _ _ _ _ _ _ _ _ _ _ _ _ _ _ _ _ _) rfl rfl ?_
  refine wPut 97 i93_94 p93_54 rfl (by decide) rfl rfl rfl ?_
  refine tHeap (h' := [.inr (6, [.ref 1, .ref 15, .ref 17, .ref 26, .ref 38, .ref 50, .ref 51, .null, .null, .null, .int 0, .int 0, .int 0, .int 0]), .inr (1, [.ref 2, .int 0, .ref 11, .ref 12, .ref 13, .ref 14, .int 0, .int (-1)]), .inr (4, [.ref 3, .ref 4, .ref 5, .ref 6, .ref 7, .ref 8, .ref 9, .ref 10]), (xI 1), (xI 24), (xI 24), (xI 24), (xI 24), (xI 24), (xI 24), (xJ 192), (xI 120), (xI 121), (xI 121), (xI 121), .inr (0, [.ref 16, .int 0]), (xI 1024), .inr (4, [.ref 18, .ref 19, .ref 20, .ref 21, .ref 22, .ref 23, .ref 24, .ref 25]), (xI 8), (xI 192), (xI 192), (xI 192), (xI 192), (xI 192), (xI 192), (xJ 1536), .inr (5, [.ref 27, .ref 28, .ref 29, .ref 30, .ref 31, .ref 32, .ref 33, .ref 34, .ref 35, .ref 36, .ref 37, .int 0]), (xI 192), (xI 192), .inl (.int, 192, .inl xOne), (xZ 192), (xI 192), (xI 192), (xB 12288), (xJ 12288), (xB 12288), (xZ 192), (xI 192), .inr (5, [.ref 39, .ref 40, .ref 41, .ref 42, .ref 43, .ref 44, .ref 45, .ref 46, .ref 47, .ref 48, .ref 49, .int 0]), (xI 192), (xI 192), .inl (.int, 192, .inl xOne), (xZ 192), (xI 192), (xI 192), (xB 12288), (xJ 12288), (xB 12288), (xZ 192), (xI 192), .inr (3, [.ref 17, .ref 26, .int 0, .int 0, .long 0]), .inr (2, [.ref 52, .ref 53, .ref 54]), .inl (.int, 4, .inl (upd (upd (upd (upd (fun _ => 0) 0 (-1)) 1 (-1)) 2 (-1)) 3 (-1))), (xI 4), (xJ 160)]) rfl ?_
  refine wLan 98 i93_97 rfl rfl ?_
  refine wKb 100 16 i93_98 (by decide) rfl ?_
  refine eNewA (n := 55) (N := 16) (c := (xJ 16)) 22 41132 21 41116 i93_100 (by decide) (by decide) rfl rfl rfl rfl ?_
  refine tHeap (h' := [.inr (6, [.ref 1, .ref 15, .ref 17, .ref 26, .ref 38, .ref 50, .ref 51, .null, .null, .null, .int 0, .int 0, .int 0, .int 0]), .inr (1, [.ref 2, .int 0, .ref 11, .ref 12, .ref 13, .ref 14, .int 0, .int (-1)]), .inr (4, [.ref 3, .ref 4, .ref 5, .ref 6, .ref 7, .ref 8, .ref 9, .ref 10]), (xI 1), (xI 24), (xI 24), (xI 24), (xI 24), (xI 24), (xI 24), (xJ 192), (xI 120), (xI 121), (xI 121), (xI 121), .inr (0, [.ref 16, .int 0]), (xI 1024), .inr (4, [.ref 18, .ref 19, .ref 20, .ref 21, .ref 22, .ref 23, .ref 24, .ref 25]), (xI 8), (xI 192), (xI 192), (xI 192), (xI 192), (xI 192), (xI 192), (xJ 1536), .inr (5, [.ref 27, .ref 28, .ref 29, .ref 30, .ref 31, .ref 32, .ref 33, .ref 34, .ref 35, .ref 36, .ref 37, .int 0]), (xI 192), (xI 192), .inl (.int, 192, .inl xOne), (xZ 192), (xI 192), (xI 192), (xB 12288), (xJ 12288), (xB 12288), (xZ 192), (xI 192), .inr (5, [.ref 39, .ref 40, .ref 41, .ref 42, .ref 43, .ref 44, .ref 45, .ref 46, .ref 47, .ref 48, .ref 49, .int 0]), (xI 192), (xI 192), .inl (.int, 192, .inl xOne), (xZ 192), (xI 192), (xI 192), (xB 12288), (xJ 12288), (xB 12288), (xZ 192), (xI 192), .inr (3, [.ref 17, .ref 26, .int 0, .int 0, .long 0]), .inr (2, [.ref 52, .ref 53, .ref 54]), .inl (.int, 4, .inl (upd (upd (upd (upd (fun _ => 0) 0 (-1)) 1 (-1)) 2 (-1)) 3 (-1))), (xI 4), (xJ 160), (xJ 16)]) rfl ?_
  refine wPut 105 i93_102 p93_58 rfl (by decide) rfl rfl rfl ?_
  refine tHeap (h' := [.inr (6, [.ref 1, .ref 15, .ref 17, .ref 26, .ref 38, .ref 50, .ref 51, .ref 55, .null, .null, .int 0, .int 0, .int 0, .int 0]), .inr (1, [.ref 2, .int 0, .ref 11, .ref 12, .ref 13, .ref 14, .int 0, .int (-1)]), .inr (4, [.ref 3, .ref 4, .ref 5, .ref 6, .ref 7, .ref 8, .ref 9, .ref 10]), (xI 1), (xI 24), (xI 24), (xI 24), (xI 24), (xI 24), (xI 24), (xJ 192), (xI 120), (xI 121), (xI 121), (xI 121), .inr (0, [.ref 16, .int 0]), (xI 1024), .inr (4, [.ref 18, .ref 19, .ref 20, .ref 21, .ref 22, .ref 23, .ref 24, .ref 25]), (xI 8), (xI 192), (xI 192), (xI 192), (xI 192), (xI 192), (xI 192), (xJ 1536), .inr (5, [.ref 27, .ref 28, .ref 29, .ref 30, .ref 31, .ref 32, .ref 33, .ref 34, .ref 35, .ref 36, .ref 37, .int 0]), (xI 192), (xI 192), .inl (.int, 192, .inl xOne), (xZ 192), (xI 192), (xI 192), (xB 12288), (xJ 12288), (xB 12288), (xZ 192), (xI 192), .inr (5, [.ref 39, .ref 40, .ref 41, .ref 42, .ref 43, .ref 44, .ref 45, .ref 46, .ref 47, .ref 48, .ref 49, .int 0]), (xI 192), (xI 192), .inl (.int, 192, .inl xOne), (xZ 192), (xI 192), (xI 192), (xB 12288), (xJ 12288), (xB 12288), (xZ 192), (xI 192), .inr (3, [.ref 17, .ref 26, .int 0, .int 0, .long 0]), .inr (2, [.ref 52, .ref 53, .ref 54]), .inl (.int, 4, .inl (upd (upd (upd (upd (fun _ => 0) 0 (-1)) 1 (-1)) 2 (-1)) 3 (-1))), (xI 4), (xJ 160), (xJ 16)]) rfl ?_
  refine wLan 106 i93_105 rfl rfl ?_
  refine eNew (n := 56) (N := 8) 21 41116 20 41108 i93_106 n93_23 rfl rfl rfl rfl ?_
  refine tHeap (h' := [.inr (6, [.ref 1, .ref 15, .ref 17, .ref 26, .ref 38, .ref 50, .ref 51, .ref 55, .null, .null, .int 0, .int 0, .int 0, .int 0]), .inr (1, [.ref 2, .int 0, .ref 11, .ref 12, .ref 13, .ref 14, .int 0, .int (-1)]), .inr (4, [.ref 3, .ref 4, .ref 5, .ref 6, .ref 7, .ref 8, .ref 9, .ref 10]), (xI 1), (xI 24), (xI 24), (xI 24), (xI 24), (xI 24), (xI 24), (xJ 192), (xI 120), (xI 121), (xI 121), (xI 121), .inr (0, [.ref 16, .int 0]), (xI 1024), .inr (4, [.ref 18, .ref 19, .ref 20, .ref 21, .ref 22, .ref 23, .ref 24, .ref 25]), (xI 8), (xI 192), (xI 192), (xI 192), (xI 192), (xI 192), (xI 192), (xJ 1536), .inr (5, [.ref 27, .ref 28, .ref 29, .ref 30, .ref 31, .ref 32, .ref 33, .ref 34, .ref 35, .ref 36, .ref 37, .int 0]), (xI 192), (xI 192), .inl (.int, 192, .inl xOne), (xZ 192), (xI 192), (xI 192), (xB 12288), (xJ 12288), (xB 12288), (xZ 192), (xI 192), .inr (5, [.ref 39, .ref 40, .ref 41, .ref 42, .ref 43, .ref 44, .ref 45, .ref 46, .ref 47, .ref 48, .ref 49, .int 0]), (xI 192), (xI 192), .inl (.int, 192, .inl xOne), (xZ 192), (xI 192), (xI 192), (xB 12288), (xJ 12288), (xB 12288), (xZ 192), (xI 192), .inr (3, [.ref 17, .ref 26, .int 0, .int 0, .long 0]), .inr (2, [.ref 52, .ref 53, .ref 54]), .inl (.int, 4, .inl (upd (upd (upd (upd (fun _ => 0) 0 (-1)) 1 (-1)) 2 (-1)) 3 (-1))), (xI 4), (xJ 160), (xJ 16), .inr (4, [.null, .null, .null, .null, .null, .null, .null, .null])]) rfl ?_
  refine wD 110 i93_109 rfl rfl rfl ?_
  refine wKb 112 8 i93_110 (by decide) rfl ?_
  refine eCallV 115 [.ref 56, .int 8] [.ref 56, .ref 0] 20 41108 12 38412 i93_112 rfl (xlk4 l93_25) (Or.inr (Or.inr (Or.inl rfl))) m66 rfl rfl (by decide) (by decide) (by decide) rfl rfl (k_Texts_b _ _ _ _ _ _ _ _ _ _ _ _ _ _ _ _ _ _ _ _ _ _ _ _ _ _ _ _ _ _ _ _ _ _ _ _ _ _ _ _ _ _ _ _ _ _ _ _ _ _ _ _ _ _ _ _) rfl rfl ?_
  refine wPut 118 i93_115 p93_62 rfl (by decide) rfl rfl rfl ?_
  refine tHeap (h' := [.inr (6, [.ref 1, .ref 15, .ref 17, .ref 26, .ref 38, .ref 50, .ref 51, .ref 55, .ref 56, .null, .int 0, .int 0, .int 0, .int 0]), .inr (1, [.ref 2, .int 0, .ref 11, .ref 12, .ref 13, .ref 14, .int 0, .int (-1)]), .inr (4, [.ref 3, .ref 4, .ref 5, .ref 6, .ref 7, .ref 8, .ref 9, .ref 10]), (xI 1), (xI 24), (xI 24), (xI 24), (xI 24), (xI 24), (xI 24), (xJ 192), (xI 120), (xI 121), (xI 121), (xI 121), .inr (0, [.ref 16, .int 0]), (xI 1024), .inr (4, [.ref 18, .ref 19, .ref 20, .ref 21, .ref 22, .ref 23, .ref 24, .ref 25]), (xI 8), (xI 192), (xI 192), (xI 192), (xI 192), (xI 192), (xI 192), (xJ 1536), .inr (5, [.ref 27, .ref 28, .ref 29, .ref 30, .ref 31, .ref 32, .ref 33, .ref 34, .ref 35, .ref 36, .ref 37, .int 0]), (xI 192), (xI 192), .inl (.int, 192, .inl xOne), (xZ 192), (xI 192), (xI 192), (xB 12288), (xJ 12288), (xB 12288), (xZ 192), (xI 192), .inr (5, [.ref 39, .ref 40, .ref 41, .ref 42, .ref 43, .ref 44, .ref 45, .ref 46, .ref 47, .ref 48, .ref 49, .int 0]), (xI 192), (xI 192), .inl (.int, 192, .inl xOne), (xZ 192), (xI 192), (xI 192), (xB 12288), (xJ 12288), (xB 12288), (xZ 192), (xI 192), .inr (3, [.ref 17, .ref 26, .int 0, .int 0, .long 0]), .inr (2, [.ref 52, .ref 53, .ref 54]), .inl (.int, 4, .inl (upd (upd (upd (upd (fun _ => 0) 0 (-1)) 1 (-1)) 2 (-1)) 3 (-1))), (xI 4), (xJ 160), (xJ 16), .inr (4, [.ref 57, .ref 58, .ref 59, .ref 60, .ref 61, .ref 62, .ref 63, .ref 64]), (xI 8), (xI 192), (xI 192), (xI 192), (xI 192), (xI 192), (xI 192), (xJ 1536)]) rfl ?_
  refine wLan 119 i93_118 rfl rfl ?_
  refine eNew (n := 65) (N := 12) 12 38412 11 38400 i93_119 n93_32 rfl rfl rfl rfl ?_
  refine tHeap (h' := [.inr (6, [.ref 1, .ref 15, .ref 17, .ref 26, .ref 38, .ref 50, .ref 51, .ref 55, .ref 56, .null, .int 0, .int 0, .int 0, .int 0]), .inr (1, [.ref 2, .int 0, .ref 11, .ref 12, .ref 13, .ref 14, .int 0, .int (-1)]), .inr (4, [.ref 3, .ref 4, .ref 5, .ref 6, .ref 7, .ref 8, .ref 9, .ref 10]), (xI 1), (xI 24), (xI 24), (xI 24), (xI 24), (xI 24), (xI 24), (xJ 192), (xI 120), (xI 121), (xI 121), (xI 121), .inr (0, [.ref 16, .int 0]), (xI 1024), .inr (4, [.ref 18, .ref 19, .ref 20, .ref 21, .ref 22, .ref 23, .ref 24, .ref 25]), (xI 8), (xI 192), (xI 192), (xI 192), (xI 192), (xI 192), (xI 192), (xJ 1536), .inr (5, [.ref 27, .ref 28, .ref 29, .ref 30, .ref 31, .ref 32, .ref 33, .ref 34, .ref 35, .ref 36, .ref 37, .int 0]), (xI 192), (xI 192), .inl (.int, 192, .inl xOne), (xZ 192), (xI 192), (xI 192), (xB 12288), (xJ 12288), (xB 12288), (xZ 192), (xI 192), .inr (5, [.ref 39, .ref 40, .ref 41, .ref 42, .ref 43, .ref 44, .ref 45, .ref 46, .ref 47, .ref 48, .ref 49, .int 0]), (xI 192), (xI 192), .inl (.int, 192, .inl xOne), (xZ 192), (xI 192), (xI 192), (xB 12288), (xJ 12288), (xB 12288), (xZ 192), (xI 192), .inr (3, [.ref 17, .ref 26, .int 0, .int 0, .long 0]), .inr (2, [.ref 52, .ref 53, .ref 54]), .inl (.int, 4, .inl (upd (upd (upd (upd (fun _ => 0) 0 (-1)) 1 (-1)) 2 (-1)) 3 (-1))), (xI 4), (xJ 160), (xJ 16), .inr (4, [.ref 57, .ref 58, .ref 59, .ref 60, .ref 61, .ref 62, .ref 63, .ref 64]), (xI 8), (xI 192), (xI 192), (xI 192), (xI 192), (xI 192), (xI 192), (xJ 1536), .inr (5, [.null, .null, .null, .null, .null, .null, .null, .null, .null, .null, .null, .int 0])]) rfl ?_
  refine wD 123 i93_122 rfl rfl rfl ?_
  refine wKs 126 192 i93_123 (by decide) rfl ?_
  refine eCallV 129 [.ref 65, .int 192] [.ref 65, .ref 0] 11 38400 0 0 i93_126 rfl (xlk4 l93_34) (Or.inr (Or.inr (Or.inl rfl))) m73 rfl rfl (by decide) (by decide) (by decide) rfl rfl (k_Told_c _ _ _ _ _ _ _ _ _ _ _ _ _ _ _ _ _ _ _ _ _ _ _ _ _ _ _ _ _ _ _ _ _ _ _ _ _ _ _ _ _ _ _ _ _ _ _ _ _ _ _ _ _ _ _ _ _ _ _ _ _ _ _ _ _) rfl rfl ?_
  refine wPut 132 i93_129 p93_65 rfl (by decide) rfl rfl rfl ?_
  refine tHeap (h' := [.inr (6, [.ref 1, .ref 15, .ref 17, .ref 26, .ref 38, .ref 50, .ref 51, .ref 55, .ref 56, .ref 65, .int 0, .int 0, .int 0, .int 0]), .inr (1, [.ref 2, .int 0, .ref 11, .ref 12, .ref 13, .ref 14, .int 0, .int (-1)]), .inr (4, [.ref 3, .ref 4, .ref 5, .ref 6, .ref 7, .ref 8, .ref 9, .ref 10]), (xI 1), (xI 24), (xI 24), (xI 24), (xI 24), (xI 24), (xI 24), (xJ 192), (xI 120), (xI 121), (xI 121), (xI 121), .inr (0, [.ref 16, .int 0]), (xI 1024), .inr (4, [.ref 18, .ref 19, .ref 20, .ref 21, .ref 22, .ref 23, .ref 24, .ref 25]), (xI 8), (xI 192), (xI 192), (xI 192), (xI 192), (xI 192), (xI 192), (xJ 1536), .inr (5, [.ref 27, .ref 28, .ref 29, .ref 30, .ref 31, .ref 32, .ref 33, .ref 34, .ref 35, .ref 36, .ref 37, .int 0]), (xI 192), (xI 192), .inl (.int, 192, .inl xOne), (xZ 192), (xI 192), (xI 192), (xB 12288), (xJ 12288), (xB 12288), (xZ 192), (xI 192), .inr (5, [.ref 39, .ref 40, .ref 41, .ref 42, .ref 43, .ref 44, .ref 45, .ref 46, .ref 47, .ref 48, .ref 49, .int 0]), (xI 192), (xI 192), .inl (.int, 192, .inl xOne), (xZ 192), (xI 192), (xI 192), (xB 12288), (xJ 12288), (xB 12288), (xZ 192), (xI 192), .inr (3, [.ref 17, .ref 26, .int 0, .int 0, .long 0]), .inr (2, [.ref 52, .ref 53, .ref 54]), .inl (.int, 4, .inl (upd (upd (upd (upd (fun _ => 0) 0 (-1)) 1 (-1)) 2 (-1)) 3 (-1))), (xI 4), (xJ 160), (xJ 16), .inr (4, [.ref 57, .ref 58, .ref 59, .ref 60, .ref 61, .ref 62, .ref 63, .ref 64]), (xI 8), (xI 192), (xI 192), (xI 192), (xI 192), (xI 192), (xI 192), (xJ 1536), .inr (5, [.ref 66, .ref 67, .ref 68, .ref 69, .ref 70, .ref 71, .ref 72, .ref 73, .ref 74, .ref 75, .ref 76, .int 0]), (xI 192), (xI 192), .inl (.int, 192, .inl xOne), (xZ 192), (xI 192), (xI 192), (xB 12288), (xJ 12288), (xB 12288), (xZ 192), (xI 192)]) rfl ?_
  refine wLan 133 i93_132 rfl rfl ?_
  refine wKb 135 99 i93_133 (by decide) rfl ?_
  refine wPut 138 i93_135 p93_68 rfl (by decide) rfl rfl rfl ?_
  refine tHeap (h' := [.inr (6, [.ref 1, .ref 15, .ref 17, .ref 26, .ref 38, .ref 50, .ref 51, .ref 55, .ref 56, .ref 65, .int 99, .int 0, .int 0, .int 0]), .inr (1, [.ref 2, .int 0, .ref 11, .ref 12, .ref 13, .ref 14, .int 0, .int (-1)]), .inr (4, [.ref 3, .ref 4, .ref 5, .ref 6, .ref 7, .ref 8, .ref 9, .ref 10]), (xI 1), (xI 24), (xI 24), (xI 24), (xI 24), (xI 24), (xI 24), (xJ 192), (xI 120), (xI 121), (xI 121), (xI 121), .inr (0, [.ref 16, .int 0]), (xI 1024), .inr (4, [.ref 18, .ref 19, .ref 20, .ref 21, .ref 22, .ref 23, .ref 24, .ref 25]), (xI 8), (xI 192), (xI 192), (xI 192), (xI 192), (xI 192), (xI 192), (xJ 1536), .inr (5, [.ref 27, .ref 28, .ref 29, .ref 30, .ref 31, .ref 32, .ref 33, .ref 34, .ref 35, .ref 36, .ref 37, .int 0]), (xI 192), (xI 192), .inl (.int, 192, .inl xOne), (xZ 192), (xI 192), (xI 192), (xB 12288), (xJ 12288), (xB 12288), (xZ 192), (xI 192), .inr (5, [.ref 39, .ref 40, .ref 41, .ref 42, .ref 43, .ref 44, .ref 45, .ref 46, .ref 47, .ref 48, .ref 49, .int 0]), (xI 192), (xI 192), .inl (.int, 192, .inl xOne), (xZ 192), (xI 192), (xI 192), (xB 12288), (xJ 12288), (xB 12288), (xZ 192), (xI 192), .inr (3, [.ref 17, .ref 26, .int 0, .int 0, .long 0]), .inr (2, [.ref 52, .ref 53, .ref 54]), .inl (.int, 4, .inl (upd (upd (upd (upd (fun _ => 0) 0 (-1)) 1 (-1)) 2 (-1)) 3 (-1))), (xI 4), (xJ 160), (xJ 16), .inr (4, [.ref 57, .ref 58, .ref 59, .ref 60, .ref 61, .ref 62, .ref 63, .ref 64]), (xI 8), (xI 192), (xI 192), (xI 192), (xI 192), (xI 192), (xI 192), (xJ 1536), .inr (5, [.ref 66, .ref 67, .ref 68, .ref 69, .ref 70, .ref 71, .ref 72, .ref 73, .ref 74, .ref 75, .ref 76, .int 0]), (xI 192), (xI 192), .inl (.int, 192, .inl xOne), (xZ 192), (xI 192), (xI 192), (xB 12288), (xJ 12288), (xB 12288), (xZ 192), (xI 192)]) rfl ?_
  refine wLan 139 i93_138 rfl rfl ?_
  refine wK 140 0 i93_139 (by decide) rfl ?_
  refine wPut 143 i93_140 p93_72 rfl (by decide) rfl rfl rfl ?_
  refine tHeap (h' := [.inr (6, [.ref 1, .ref 15, .ref 17, .ref 26, .ref 38, .ref 50, .ref 51, .ref 55, .ref 56, .ref 65, .int 99, .int 0, .int 0, .int 0]), .inr (1, [.ref 2, .int 0, .ref 11, .ref 12, .ref 13, .ref 14, .int 0, .int (-1)]), .inr (4, [.ref 3, .ref 4, .ref 5, .ref 6, .ref 7, .ref 8, .ref 9, .ref 10]), (xI 1), (xI 24), (xI 24), (xI 24), (xI 24), (xI 24), (xI 24), (xJ 192), (xI 120), (xI 121), (xI 121), (xI 121), .inr (0, [.ref 16, .int 0]), (xI 1024), .inr (4, [.ref 18, .ref 19, .ref 20, .ref 21, .ref 22, .ref 23, .ref 24, .ref 25]), (xI 8), (xI 192), (xI 192), (xI 192), (xI 192), (xI 192), (xI 192), (xJ 1536), .inr (5, [.ref 27, .ref 28, .ref 29, .ref 30, .ref 31, .ref 32, .ref 33, .ref 34, .ref 35, .ref 36, .ref 37, .int 0]), (xI 192), (xI 192), .inl (.int, 192, .inl xOne), (xZ 192), (xI 192), (xI 192), (xB 12288), (xJ 12288), (xB 12288), (xZ 192), (xI 192), .inr (5, [.ref 39, .ref 40, .ref 41, .ref 42, .ref 43, .ref 44, .ref 45, .ref 46, .ref 47, .ref 48, .ref 49, .int 0]), (xI 192), (xI 192), .inl (.int, 192, .inl xOne), (xZ 192), (xI 192), (xI 192), (xB 12288), (xJ 12288), (xB 12288), (xZ 192), (xI 192), .inr (3, [.ref 17, .ref 26, .int 0, .int 0, .long 0]), .inr (2, [.ref 52, .ref 53, .ref 54]), .inl (.int, 4, .inl (upd (upd (upd (upd (fun _ => 0) 0 (-1)) 1 (-1)) 2 (-1)) 3 (-1))), (xI 4), (xJ 160), (xJ 16), .inr (4, [.ref 57, .ref 58, .ref 59, .ref 60, .ref 61, .ref 62, .ref 63, .ref 64]), (xI 8), (xI 192), (xI 192), (xI 192), (xI 192), (xI 192), (xI 192), (xJ 1536), .inr (5, [.ref 66, .ref 67, .ref 68, .ref 69, .ref 70, .ref 71, .ref 72, .ref 73, .ref 74, .ref 75, .ref 76, .int 0]), (xI 192), (xI 192), .inl (.int, 192, .inl xOne), (xZ 192), (xI 192), (xI 192), (xB 12288), (xJ 12288), (xB 12288), (xZ 192), (xI 192)]) rfl ?_
  refine wLan 144 i93_143 rfl rfl ?_
  refine wKb 146 99 i93_144 (by decide) rfl ?_
  refine wPut 149 i93_146 p93_76 rfl (by decide) rfl rfl rfl ?_
  refine tHeap (h' := [.inr (6, [.ref 1, .ref 15, .ref 17, .ref 26, .ref 38, .ref 50, .ref 51, .ref 55, .ref 56, .ref 65, .int 99, .int 0, .int 99, .int 0]), .inr (1, [.ref 2, .int 0, .ref 11, .ref 12, .ref 13, .ref 14, .int 0, .int (-1)]), .inr (4, [.ref 3, .ref 4, .ref 5, .ref 6, .ref 7, .ref 8, .ref 9, .ref 10]), (xI 1), (xI 24), (xI 24), (xI 24), (xI 24), (xI 24), (xI 24), (xJ 192), (xI 120), (xI 121), (xI 121), (xI 121), .inr (0, [.ref 16, .int 0]), (xI 1024), .inr (4, [.ref 18, .ref 19, .ref 20, .ref 21, .ref 22, .ref 23, .ref 24, .ref 25]), (xI 8), (xI 192), (xI 192), (xI 192), (xI 192), (xI 192), (xI 192), (xJ 1536), .inr (5, [.ref 27, .ref 28, .ref 29, .ref 30, .ref 31, .ref 32, .ref 33, .ref 34, .ref 35, .ref 36, .ref 37, .int 0]), (xI 192), (xI 192), .inl (.int, 192, .inl xOne), (xZ 192), (xI 192), (xI 192), (xB 12288), (xJ 12288), (xB 12288), (xZ 192), (xI 192), .inr (5, [.ref 39, .ref 40, .ref 41, .ref 42, .ref 43, .ref 44, .ref 45, .ref 46, .ref 47, .ref 48, .ref 49, .int 0]), (xI 192), (xI 192), .inl (.int, 192, .inl xOne), (xZ 192), (xI 192), (xI 192), (xB 12288), (xJ 12288), (xB 12288), (xZ 192), (xI 192), .inr (3, [.ref 17, .ref 26, .int 0, .int 0, .long 0]), .inr (2, [.ref 52, .ref 53, .ref 54]), .inl (.int, 4, .inl (upd (upd (upd (upd (fun _ => 0) 0 (-1)) 1 (-1)) 2 (-1)) 3 (-1))), (xI 4), (xJ 160), (xJ 16), .inr (4, [.ref 57, .ref 58, .ref 59, .ref 60, .ref 61, .ref 62, .ref 63, .ref 64]), (xI 8), (xI 192), (xI 192), (xI 192), (xI 192), (xI 192), (xI 192), (xJ 1536), .inr (5, [.ref 66, .ref 67, .ref 68, .ref 69, .ref 70, .ref 71, .ref 72, .ref 73, .ref 74, .ref 75, .ref 76, .int 0]), (xI 192), (xI 192), .inl (.int, 192, .inl xOne), (xZ 192), (xI 192), (xI 192), (xB 12288), (xJ 12288), (xB 12288), (xZ 192), (xI 192)]) rfl ?_
  refine wLan 150 i93_149 rfl rfl ?_
  refine wK 151 0 i93_150 (by decide) rfl ?_
  refine wPut 154 i93_151 p93_79 rfl (by decide) rfl rfl rfl ?_
  refine tHeap (h' := [.inr (6, [.ref 1, .ref 15, .ref 17, .ref 26, .ref 38, .ref 50, .ref 51, .ref 55, .ref 56, .ref 65, .int 99, .int 0, .int 99, .int 0]), .inr (1, [.ref 2, .int 0, .ref 11, .ref 12, .ref 13, .ref 14, .int 0, .int (-1)]), .inr (4, [.ref 3, .ref 4, .ref 5, .ref 6, .ref 7, .ref 8, .ref 9, .ref 10]), (xI 1), (xI 24), (xI 24), (xI 24), (xI 24), (xI 24), (xI 24), (xJ 192), (xI 120), (xI 121), (xI 121), (xI 121), .inr (0, [.ref 16, .int 0]), (xI 1024), .inr (4, [.ref 18, .ref 19, .ref 20, .ref 21, .ref 22, .ref 23, .ref 24, .ref 25]), (xI 8), (xI 192), (xI 192), (xI 192), (xI 192), (xI 192), (xI 192), (xJ 1536), .inr (5, [.ref 27, .ref 28, .ref 29, .ref 30, .ref 31, .ref 32, .ref 33, .ref 34, .ref 35, .ref 36, .ref 37, .int 0]), (xI 192), (xI 192), .inl (.int, 192, .inl xOne), (xZ 192), (xI 192), (xI 192), (xB 12288), (xJ 12288), (xB 12288), (xZ 192), (xI 192), .inr (5, [.ref 39, .ref 40, .ref 41, .ref 42, .ref 43, .ref 44, .ref 45, .ref 46, .ref 47, .ref 48, .ref 49, .int 0]), (xI 192), (xI 192), .inl (.int, 192, .inl xOne), (xZ 192), (xI 192), (xI 192), (xB 12288), (xJ 12288), (xB 12288), (xZ 192), (xI 192), .inr (3, [.ref 17, .ref 26, .int 0, .int 0, .long 0]), .inr (2, [.ref 52, .ref 53, .ref 54]), .inl (.int, 4, .inl (upd (upd (upd (upd (fun _ => 0) 0 (-1)) 1 (-1)) 2 (-1)) 3 (-1))), (xI 4), (xJ 160), (xJ 16), .inr (4, [.ref 57, .ref 58, .ref 59, .ref 60, .ref 61, .ref 62, .ref 63, .ref 64]), (xI 8), (xI 192), (xI 192), (xI 192), (xI 192), (xI 192), (xI 192), (xJ 1536), .inr (5, [.ref 66, .ref 67, .ref 68, .ref 69, .ref 70, .ref 71, .ref 72, .ref 73, .ref 74, .ref 75, .ref 76, .int 0]), (xI 192), (xI 192), .inl (.int, 192, .inl xOne), (xZ 192), (xI 192), (xI 192), (xB 12288), (xJ 12288), (xB 12288), (xZ 192), (xI 192)]) rfl ?_
  refine wR0 i93_154 m93 ?_
  exact rfl
end
section
theorem i143_0 : xIns xg 143 0 = some (.aload_n 0) := by decide +kernel
theorem i143_1 : xIns xg 143 1 = some (.invokespecial 7) := by decide +kernel
theorem l143_7 : xMth xg 143 7 = some (6, 0, 0, 0) := by decide +kernel
theorem i143_4 : xIns xg 143 4 = some (.aload_n 0) := by decide +kernel
theorem i143_5 : xIns xg 143 5 = some (.bipush 8) := by decide +kernel
theorem i143_7 : xIns xg 143 7 = some (.newarray .int) := by decide +kernel
theorem i143_9 : xIns xg 143 9 = some (.putfield 13) := by decide +kernel
theorem p143_13 : xPut xg 143 13 = some (7, 1, (.array .int)) := by decide +kernel
theorem i143_12 : xIns xg 143 12 = some (.aload_n 0) := by decide +kernel
theorem i143_13 : xIns xg 143 13 = some (.sipush 192) := by decide +kernel
theorem i143_16 : xIns xg 143 16 = some (.newarray .int) := by decide +kernel
theorem i143_18 : xIns xg 143 18 = some (.putfield 17) := by decide +kernel
theorem p143_17 : xPut xg 143 17 = some (7, 2, (.array .int)) := by decide +kernel
theorem i143_21 : xIns xg 143 21 = some (.aload_n 0) := by decide +kernel
theorem i143_22 : xIns xg 143 22 = some (.sipush 192) := by decide +kernel
theorem i143_25 : xIns xg 143 25 = some (.newarray .int) := by decide +kernel
theorem i143_27 : xIns xg 143 27 = some (.putfield 20) := by decide +kernel
theorem p143_20 : xPut xg 143 20 = some (7, 3, (.array .int)) := by decide +kernel
theorem i143_30 : xIns xg 143 30 = some (.aload_n 0) := by decide +kernel
theorem i143_31 : xIns xg 143 31 = some (.sipush 192) := by decide +kernel
theorem i143_34 : xIns xg 143 34 = some (.newarray .int) := by decide +kernel
theorem i143_36 : xIns xg 143 36 = some (.putfield 23) := by decide +kernel
theorem p143_23 : xPut xg 143 23 = some (7, 4, (.array .int)) := by decide +kernel
theorem i143_39 : xIns xg 143 39 = some (.aload_n 0) := by decide +kernel
theorem i143_40 : xIns xg 143 40 = some (.sipush 192) := by decide +kernel
theorem i143_43 : xIns xg 143 43 = some (.newarray .long) := by decide +kernel
theorem i143_45 : xIns xg 143 45 = some (.putfield 26) := by decide +kernel
theorem p143_26 : xPut xg 143 26 = some (7, 5, (.array .long)) := by decide +kernel
theorem i143_48 : xIns xg 143 48 = some (.aload_n 0) := by decide +kernel
theorem i143_49 : xIns xg 143 49 = some (.sipush 192) := by decide +kernel
theorem i143_52 : xIns xg 143 52 = some (.newarray .long) := by decide +kernel
theorem i143_54 : xIns xg 143 54 = some (.putfield 30) := by decide +kernel
theorem p143_30 : xPut xg 143 30 = some (7, 6, (.array .long)) := by decide +kernel
theorem i143_57 : xIns xg 143 57 = some (.aload_n 0) := by decide +kernel
theorem i143_58 : xIns xg 143 58 = some (.sipush 192) := by decide +kernel
theorem i143_61 : xIns xg 143 61 = some (.newarray .int) := by decide +kernel
theorem i143_63 : xIns xg 143 63 = some (.putfield 33) := by decide +kernel
theorem p143_33 : xPut xg 143 33 = some (7, 7, (.array .int)) := by decide +kernel
theorem i143_66 : xIns xg 143 66 = some (.aload_n 0) := by decide +kernel
theorem i143_67 : xIns xg 143 67 = some (.sipush 1536) := by decide +kernel
theorem i143_70 : xIns xg 143 70 = some (.newarray .long) := by decide +kernel
theorem i143_72 : xIns xg 143 72 = some (.putfield 36) := by decide +kernel
theorem p143_36 : xPut xg 143 36 = some (7, 8, (.array .long)) := by decide +kernel
theorem i143_75 : xIns xg 143 75 = some (.aload_n 0) := by decide +kernel
theorem i143_76 : xIns xg 143 76 = some (.bipush 99) := by decide +kernel
theorem i143_78 : xIns xg 143 78 = some (.putfield 39) := by decide +kernel
theorem p143_39 : xPut xg 143 39 = some (7, 9, .int) := by decide +kernel
theorem i143_81 : xIns xg 143 81 = some (.aload_n 0) := by decide +kernel
theorem i143_82 : xIns xg 143 82 = some (.sipush 192) := by decide +kernel
theorem i143_85 : xIns xg 143 85 = some (.newarray .int) := by decide +kernel
theorem i143_87 : xIns xg 143 87 = some (.putfield 42) := by decide +kernel
theorem p143_42 : xPut xg 143 42 = some (7, 10, (.array .int)) := by decide +kernel
theorem i143_90 : xIns xg 143 90 = some (.aload_n 0) := by decide +kernel
theorem i143_91 : xIns xg 143 91 = some (.sipush 192) := by decide +kernel
theorem i143_94 : xIns xg 143 94 = some (.newarray .int) := by decide +kernel
theorem i143_96 : xIns xg 143 96 = some (.putfield 45) := by decide +kernel
theorem p143_45 : xPut xg 143 45 = some (7, 11, (.array .int)) := by decide +kernel
theorem i143_99 : xIns xg 143 99 = some (.aload_n 0) := by decide +kernel
theorem i143_100 : xIns xg 143 100 = some (.sipush 192) := by decide +kernel
theorem i143_103 : xIns xg 143 103 = some (.newarray .boolean) := by decide +kernel
theorem i143_105 : xIns xg 143 105 = some (.putfield 48) := by decide +kernel
theorem p143_48 : xPut xg 143 48 = some (7, 12, (.array .boolean)) := by decide +kernel
theorem i143_108 : xIns xg 143 108 = some (.aload_n 0) := by decide +kernel
theorem i143_109 : xIns xg 143 109 = some (.sipush 192) := by decide +kernel
theorem i143_112 : xIns xg 143 112 = some (.newarray .int) := by decide +kernel
theorem i143_114 : xIns xg 143 114 = some (.putfield 52) := by decide +kernel
theorem p143_52 : xPut xg 143 52 = some (7, 13, (.array .int)) := by decide +kernel
theorem i143_117 : xIns xg 143 117 = some (.aload_n 0) := by decide +kernel
theorem i143_118 : xIns xg 143 118 = some (.sipush 192) := by decide +kernel
theorem i143_121 : xIns xg 143 121 = some (.newarray .int) := by decide +kernel
theorem i143_123 : xIns xg 143 123 = some (.putfield 55) := by decide +kernel
theorem p143_55 : xPut xg 143 55 = some (7, 14, (.array .int)) := by decide +kernel
theorem i143_126 : xIns xg 143 126 = some (.aload_n 0) := by decide +kernel
theorem i143_127 : xIns xg 143 127 = some (.sipush 12288) := by decide +kernel
theorem i143_130 : xIns xg 143 130 = some (.newarray .int) := by decide +kernel
theorem i143_132 : xIns xg 143 132 = some (.putfield 58) := by decide +kernel
theorem p143_58 : xPut xg 143 58 = some (7, 15, (.array .int)) := by decide +kernel
theorem i143_135 : xIns xg 143 135 = some (.aload_n 0) := by decide +kernel
theorem i143_136 : xIns xg 143 136 = some (.sipush 12288) := by decide +kernel
theorem i143_139 : xIns xg 143 139 = some (.newarray .long) := by decide +kernel
theorem i143_141 : xIns xg 143 141 = some (.putfield 61) := by decide +kernel
theorem p143_61 : xPut xg 143 61 = some (7, 16, (.array .long)) := by decide +kernel
theorem i143_144 : xIns xg 143 144 = some (.aload_n 0) := by decide +kernel
theorem i143_145 : xIns xg 143 145 = some (.sipush 12288) := by decide +kernel
theorem i143_148 : xIns xg 143 148 = some (.newarray .int) := by decide +kernel
theorem i143_150 : xIns xg 143 150 = some (.putfield 64) := by decide +kernel
theorem p143_64 : xPut xg 143 64 = some (7, 17, (.array .int)) := by decide +kernel
theorem i143_153 : xIns xg 143 153 = some (.aload_n 0) := by decide +kernel
theorem i143_154 : xIns xg 143 154 = some (.bipush 120) := by decide +kernel
theorem i143_156 : xIns xg 143 156 = some (.newarray .int) := by decide +kernel
theorem i143_158 : xIns xg 143 158 = some (.putfield 67) := by decide +kernel
theorem p143_67 : xPut xg 143 67 = some (7, 18, (.array .int)) := by decide +kernel
theorem i143_161 : xIns xg 143 161 = some (.aload_n 0) := by decide +kernel
theorem i143_162 : xIns xg 143 162 = some (.bipush 24) := by decide +kernel
theorem i143_164 : xIns xg 143 164 = some (.newarray .int) := by decide +kernel
theorem i143_166 : xIns xg 143 166 = some (.putfield 70) := by decide +kernel
theorem p143_70 : xPut xg 143 70 = some (7, 27, (.array .int)) := by decide +kernel
theorem i143_169 : xIns xg 143 169 = some (.aload_n 0) := by decide +kernel
theorem i143_170 : xIns xg 143 170 = some (.bipush 24) := by decide +kernel
theorem i143_172 : xIns xg 143 172 = some (.newarray .int) := by decide +kernel
theorem i143_174 : xIns xg 143 174 = some (.putfield 73) := by decide +kernel
theorem p143_73 : xPut xg 143 73 = some (7, 28, (.array .int)) := by decide +kernel
theorem i143_177 : xIns xg 143 177 = some (.aload_n 0) := by decide +kernel
theorem i143_178 : xIns xg 143 178 = some (.bipush 24) := by decide +kernel
theorem i143_180 : xIns xg 143 180 = some (.newarray .int) := by decide +kernel
theorem i143_182 : xIns xg 143 182 = some (.putfield 76) := by decide +kernel
theorem p143_76 : xPut xg 143 76 = some (7, 29, (.array .int)) := by decide +kernel
theorem i143_185 : xIns xg 143 185 = some (.aload_n 0) := by decide +kernel
theorem i143_186 : xIns xg 143 186 = some (.bipush 24) := by decide +kernel
theorem i143_188 : xIns xg 143 188 = some (.newarray .long) := by decide +kernel
theorem i143_190 : xIns xg 143 190 = some (.putfield 79) := by decide +kernel
theorem p143_79 : xPut xg 143 79 = some (7, 30, (.array .long)) := by decide +kernel
theorem i143_193 : xIns xg 143 193 = some (.aload_n 0) := by decide +kernel
theorem i143_194 : xIns xg 143 194 = some (.bipush 24) := by decide +kernel
theorem i143_196 : xIns xg 143 196 = some (.newarray .long) := by decide +kernel
theorem i143_198 : xIns xg 143 198 = some (.putfield 82) := by decide +kernel
theorem p143_82 : xPut xg 143 82 = some (7, 31, (.array .long)) := by decide +kernel
theorem i143_201 : xIns xg 143 201 = some (.aload_n 0) := by decide +kernel
theorem i143_202 : xIns xg 143 202 = some (.bipush 24) := by decide +kernel
theorem i143_204 : xIns xg 143 204 = some (.newarray .int) := by decide +kernel
theorem i143_206 : xIns xg 143 206 = some (.putfield 85) := by decide +kernel
theorem p143_85 : xPut xg 143 85 = some (7, 32, (.array .int)) := by decide +kernel
theorem i143_209 : xIns xg 143 209 = some (.aload_n 0) := by decide +kernel
theorem i143_210 : xIns xg 143 210 = some (.sipush 192) := by decide +kernel
theorem i143_213 : xIns xg 143 213 = some (.newarray .long) := by decide +kernel
theorem i143_215 : xIns xg 143 215 = some (.putfield 88) := by decide +kernel
theorem p143_88 : xPut xg 143 88 = some (7, 33, (.array .long)) := by decide +kernel
theorem i143_218 : xIns xg 143 218 = some (.aload_n 0) := by decide +kernel
theorem i143_219 : xIns xg 143 219 = some (.sipush 4096) := by decide +kernel
theorem i143_222 : xIns xg 143 222 = some (.newarray .int) := by decide +kernel
theorem i143_224 : xIns xg 143 224 = some (.putfield 91) := by decide +kernel
theorem p143_91 : xPut xg 143 91 = some (7, 34, (.array .int)) := by decide +kernel
theorem i143_227 : xIns xg 143 227 = some (.aload_n 0) := by decide +kernel
theorem i143_228 : xIns xg 143 228 = some (.sipush 192) := by decide +kernel
theorem i143_231 : xIns xg 143 231 = some (.newarray .int) := by decide +kernel
theorem i143_233 : xIns xg 143 233 = some (.putfield 94) := by decide +kernel
theorem p143_94 : xPut xg 143 94 = some (7, 40, (.array .int)) := by decide +kernel
theorem i143_236 : xIns xg 143 236 = some (.aload_n 0) := by decide +kernel
theorem i143_237 : xIns xg 143 237 = some (.sipush 192) := by decide +kernel
theorem i143_240 : xIns xg 143 240 = some (.newarray .int) := by decide +kernel
theorem i143_242 : xIns xg 143 242 = some (.putfield 97) := by decide +kernel
theorem p143_97 : xPut xg 143 97 = some (7, 41, (.array .int)) := by decide +kernel
theorem i143_245 : xIns xg 143 245 = some (.aload_n 0) := by decide +kernel
theorem i143_246 : xIns xg 143 246 = some (.sipush 192) := by decide +kernel
theorem i143_249 : xIns xg 143 249 = some (.newarray .int) := by decide +kernel
theorem i143_251 : xIns xg 143 251 = some (.putfield 100) := by decide +kernel
theorem p143_100 : xPut xg 143 100 = some (7, 42, (.array .int)) := by decide +kernel
theorem i143_254 : xIns xg 143 254 = some (.aload_n 0) := by decide +kernel
theorem i143_255 : xIns xg 143 255 = some (.sipush 192) := by decide +kernel
theorem i143_258 : xIns xg 143 258 = some (.newarray .int) := by decide +kernel
theorem i143_260 : xIns xg 143 260 = some (.putfield 103) := by decide +kernel
theorem p143_103 : xPut xg 143 103 = some (7, 43, (.array .int)) := by decide +kernel
theorem i143_263 : xIns xg 143 263 = some (.aload_n 0) := by decide +kernel
theorem i143_264 : xIns xg 143 264 = some (.sipush 12288) := by decide +kernel
theorem i143_267 : xIns xg 143 267 = some (.newarray .int) := by decide +kernel
theorem i143_269 : xIns xg 143 269 = some (.putfield 106) := by decide +kernel
theorem p143_106 : xPut xg 143 106 = some (7, 44, (.array .int)) := by decide +kernel
theorem i143_272 : xIns xg 143 272 = some (.aload_n 0) := by decide +kernel
theorem i143_273 : xIns xg 143 273 = some (.sipush 12288) := by decide +kernel
theorem i143_276 : xIns xg 143 276 = some (.newarray .long) := by decide +kernel
theorem i143_278 : xIns xg 143 278 = some (.putfield 109) := by decide +kernel
theorem p143_109 : xPut xg 143 109 = some (7, 45, (.array .long)) := by decide +kernel
theorem i143_281 : xIns xg 143 281 = some (.aload_n 0) := by decide +kernel
theorem i143_282 : xIns xg 143 282 = some (.sipush 12288) := by decide +kernel
theorem i143_285 : xIns xg 143 285 = some (.newarray .int) := by decide +kernel
theorem i143_287 : xIns xg 143 287 = some (.putfield 112) := by decide +kernel
theorem p143_112 : xPut xg 143 112 = some (7, 46, (.array .int)) := by decide +kernel
theorem i143_290 : xIns xg 143 290 = some (.aload_n 0) := by decide +kernel
theorem i143_291 : xIns xg 143 291 = some (.bipush 16) := by decide +kernel
theorem i143_293 : xIns xg 143 293 = some (.newarray .long) := by decide +kernel
theorem i143_295 : xIns xg 143 295 = some (.putfield 115) := by decide +kernel
theorem p143_115 : xPut xg 143 115 = some (7, 47, (.array .long)) := by decide +kernel
theorem i143_298 : xIns xg 143 298 = some (.aload_n 0) := by decide +kernel
theorem i143_299 : xIns xg 143 299 = some (.bipush 8) := by decide +kernel
theorem i143_301 : xIns xg 143 301 = some (.newarray .int) := by decide +kernel
theorem i143_303 : xIns xg 143 303 = some (.putfield 118) := by decide +kernel
theorem p143_118 : xPut xg 143 118 = some (7, 48, (.array .int)) := by decide +kernel
theorem i143_306 : xIns xg 143 306 = some (.aload_n 0) := by decide +kernel
theorem i143_307 : xIns xg 143 307 = some (.sipush 192) := by decide +kernel
theorem i143_310 : xIns xg 143 310 = some (.newarray .int) := by decide +kernel
theorem i143_312 : xIns xg 143 312 = some (.putfield 121) := by decide +kernel
theorem p143_121 : xPut xg 143 121 = some (7, 49, (.array .int)) := by decide +kernel
theorem i143_315 : xIns xg 143 315 = some (.aload_n 0) := by decide +kernel
theorem i143_316 : xIns xg 143 316 = some (.sipush 192) := by decide +kernel
theorem i143_319 : xIns xg 143 319 = some (.newarray .int) := by decide +kernel
theorem i143_321 : xIns xg 143 321 = some (.putfield 124) := by decide +kernel
theorem p143_124 : xPut xg 143 124 = some (7, 50, (.array .int)) := by decide +kernel
theorem i143_324 : xIns xg 143 324 = some (.aload_n 0) := by decide +kernel
theorem i143_325 : xIns xg 143 325 = some (.sipush 192) := by decide +kernel
theorem i143_328 : xIns xg 143 328 = some (.newarray .int) := by decide +kernel
theorem i143_330 : xIns xg 143 330 = some (.putfield 127) := by decide +kernel
theorem p143_127 : xPut xg 143 127 = some (7, 51, (.array .int)) := by decide +kernel
theorem i143_333 : xIns xg 143 333 = some (.aload_n 0) := by decide +kernel
theorem i143_334 : xIns xg 143 334 = some (.sipush 192) := by decide +kernel
theorem i143_337 : xIns xg 143 337 = some (.newarray .long) := by decide +kernel
theorem i143_339 : xIns xg 143 339 = some (.putfield 130) := by decide +kernel
theorem p143_130 : xPut xg 143 130 = some (7, 52, (.array .long)) := by decide +kernel
theorem i143_342 : xIns xg 143 342 = some (.aload_n 0) := by decide +kernel
theorem i143_343 : xIns xg 143 343 = some (.sipush 192) := by decide +kernel
theorem i143_346 : xIns xg 143 346 = some (.newarray .long) := by decide +kernel
theorem i143_348 : xIns xg 143 348 = some (.putfield 133) := by decide +kernel
theorem p143_133 : xPut xg 143 133 = some (7, 53, (.array .long)) := by decide +kernel
theorem i143_351 : xIns xg 143 351 = some (.aload_n 0) := by decide +kernel
theorem i143_352 : xIns xg 143 352 = some (.sipush 192) := by decide +kernel
theorem i143_355 : xIns xg 143 355 = some (.newarray .int) := by decide +kernel
theorem i143_357 : xIns xg 143 357 = some (.putfield 136) := by decide +kernel
theorem p143_136 : xPut xg 143 136 = some (7, 54, (.array .int)) := by decide +kernel
theorem i143_360 : xIns xg 143 360 = some (.aload_n 0) := by decide +kernel
theorem i143_361 : xIns xg 143 361 = some (.sipush 1536) := by decide +kernel
theorem i143_364 : xIns xg 143 364 = some (.newarray .long) := by decide +kernel
theorem i143_366 : xIns xg 143 366 = some (.putfield 139) := by decide +kernel
theorem p143_139 : xPut xg 143 139 = some (7, 55, (.array .long)) := by decide +kernel
theorem i143_369 : xIns xg 143 369 = some (.aload_n 0) := by decide +kernel
theorem i143_370 : xIns xg 143 370 = some (.sipush 192) := by decide +kernel
theorem i143_373 : xIns xg 143 373 = some (.newarray .int) := by decide +kernel
theorem i143_375 : xIns xg 143 375 = some (.putfield 142) := by decide +kernel
theorem p143_142 : xPut xg 143 142 = some (7, 56, (.array .int)) := by decide +kernel
theorem i143_378 : xIns xg 143 378 = some (.aload_n 0) := by decide +kernel
theorem i143_379 : xIns xg 143 379 = some (.sipush 192) := by decide +kernel
theorem i143_382 : xIns xg 143 382 = some (.newarray .int) := by decide +kernel
theorem i143_384 : xIns xg 143 384 = some (.putfield 145) := by decide +kernel
theorem p143_145 : xPut xg 143 145 = some (7, 57, (.array .int)) := by decide +kernel
theorem i143_387 : xIns xg 143 387 = some (.aload_n 0) := by decide +kernel
theorem i143_388 : xIns xg 143 388 = some (.sipush 192) := by decide +kernel
theorem i143_391 : xIns xg 143 391 = some (.newarray .int) := by decide +kernel
theorem i143_393 : xIns xg 143 393 = some (.putfield 148) := by decide +kernel
theorem p143_148 : xPut xg 143 148 = some (7, 58, (.array .int)) := by decide +kernel
theorem i143_396 : xIns xg 143 396 = some (.aload_n 0) := by decide +kernel
theorem i143_397 : xIns xg 143 397 = some (.sipush 192) := by decide +kernel
theorem i143_400 : xIns xg 143 400 = some (.newarray .int) := by decide +kernel
theorem i143_402 : xIns xg 143 402 = some (.putfield 151) := by decide +kernel
theorem p143_151 : xPut xg 143 151 = some (7, 59, (.array .int)) := by decide +kernel
theorem i143_405 : xIns xg 143 405 = some (.aload_n 0) := by decide +kernel
theorem i143_406 : xIns xg 143 406 = some (.sipush 12288) := by decide +kernel
theorem i143_409 : xIns xg 143 409 = some (.newarray .int) := by decide +kernel
theorem i143_411 : xIns xg 143 411 = some (.putfield 154) := by decide +kernel
theorem p143_154 : xPut xg 143 154 = some (7, 60, (.array .int)) := by decide +kernel
theorem i143_414 : xIns xg 143 414 = some (.aload_n 0) := by decide +kernel
theorem i143_415 : xIns xg 143 415 = some (.sipush 12288) := by decide +kernel
theorem i143_418 : xIns xg 143 418 = some (.newarray .long) := by decide +kernel
theorem i143_420 : xIns xg 143 420 = some (.putfield 157) := by decide +kernel
theorem p143_157 : xPut xg 143 157 = some (7, 61, (.array .long)) := by decide +kernel
theorem i143_423 : xIns xg 143 423 = some (.aload_n 0) := by decide +kernel
theorem i143_424 : xIns xg 143 424 = some (.sipush 12288) := by decide +kernel
theorem i143_427 : xIns xg 143 427 = some (.newarray .int) := by decide +kernel
theorem i143_429 : xIns xg 143 429 = some (.putfield 160) := by decide +kernel
theorem p143_160 : xPut xg 143 160 = some (7, 62, (.array .int)) := by decide +kernel
theorem i143_432 : xIns xg 143 432 = some (.aload_n 0) := by decide +kernel
theorem i143_433 : xIns xg 143 433 = some (.iconst 4) := by decide +kernel
theorem i143_434 : xIns xg 143 434 = some (.newarray .boolean) := by decide +kernel
theorem i143_436 : xIns xg 143 436 = some (.putfield 163) := by decide +kernel
theorem p143_163 : xPut xg 143 163 = some (7, 65, (.array .boolean)) := by decide +kernel
theorem i143_439 : xIns xg 143 439 = some (.aload_n 0) := by decide +kernel
theorem i143_440 : xIns xg 143 440 = some (.iconst 4) := by decide +kernel
theorem i143_441 : xIns xg 143 441 = some (.newarray .int) := by decide +kernel
theorem i143_443 : xIns xg 143 443 = some (.putfield 166) := by decide +kernel
theorem p143_166 : xPut xg 143 166 = some (7, 66, (.array .int)) := by decide +kernel
theorem i143_446 : xIns xg 143 446 = some (.aload_n 0) := by decide +kernel
theorem i143_447 : xIns xg 143 447 = some (.iconst 4) := by decide +kernel
theorem i143_448 : xIns xg 143 448 = some (.newarray .int) := by decide +kernel
theorem i143_450 : xIns xg 143 450 = some (.putfield 169) := by decide +kernel
theorem p143_169 : xPut xg 143 169 = some (7, 67, (.array .int)) := by decide +kernel
theorem i143_453 : xIns xg 143 453 = some (.aload_n 0) := by decide +kernel
theorem i143_454 : xIns xg 143 454 = some (.sipush 160) := by decide +kernel
theorem i143_457 : xIns xg 143 457 = some (.newarray .long) := by decide +kernel
theorem i143_459 : xIns xg 143 459 = some (.putfield 172) := by decide +kernel
theorem p143_172 : xPut xg 143 172 = some (7, 68, (.array .long)) := by decide +kernel
theorem i143_462 : xIns xg 143 462 = some (.return_) := by decide +kernel
theorem m143 : (xMet xg 143).2.2 = (1, none) := by decide +kernel
set_option maxHeartbeats 4000000 in
set_option maxRecDepth 100000 in
theorem k_Model {sc : xS} {d : Nat} (c0 c1 c2 c3 c4 c5 c6 c7 c8 c9 c10 c11 c12 c13 c14 c15 c16 c17 c18 c19 c20 c21 c22 c23 c24 c25 c26 c27 c28 c29 c30 c31 c32 c33 c34 c35 c36 c37 c38 c39 c40 c41 c42 c43 c44 c45 c46 c47 c48 c49 c50 c51 c52 c53 c54 c55 c56 c57 c58 c59 c60 c61 c62 c63 c64 c65 c66 c67 c68 c69 c70 c71 c72 c73 c74 c75 c76 : xE) : xT xg sc (d + 1) 143 0 [(0, .ref 77)] [] [c0, c1, c2, c3, c4, c5, c6, c7, c8, c9, c10, c11, c12, c13, c14, c15, c16, c17, c18, c19, c20, c21, c22, c23, c24, c25, c26, c27, c28, c29, c30, c31, c32, c33, c34, c35, c36, c37, c38, c39, c40, c41, c42, c43, c44, c45, c46, c47, c48, c49, c50, c51, c52, c53, c54, c55, c56, c57, c58, c59, c60, c61, c62, c63, c64, c65, c66, c67, c68, c69, c70, c71, c72, c73, c74, c75, c76, .inr (7, [.int 0, .null, .null, .null, .null, .null, .null, .null, .null, .int 0, .null, .null, .null, .null, .null, .null, .null, .null, .null, .int 0, .int 0, .int 0, .int 0, .int 0, .int 0, .int 0, .int 0, .null, .null, .null, .null, .null, .null, .null, .null, .int 0, .int 0, .int 0, .long 0, .int 0, .null, .null, .null, .null, .null, .null, .null, .null, .null, .null, .null, .null, .null, .null, .null, .null, .null, .null, .null, .null, .null, .null, .null, .int 0, .int 0, .null, .null, .null, .null])] (fun r => r = (none, [c0, c1, c2, c3, c4, c5, c6, c7, c8, c9, c10, c11, c12, c13, c14, c15, c16, c17, c18, c19, c20, c21, c22, c23, c24, c25, c26, c27, c28, c29, c30, c31, c32, c33, c34, c35, c36, c37, c38, c39, c40, c41, c42, c43, c44, c45, c46, c47, c48, c49, c50, c51, c52, c53, c54, c55, c56, c57, c58, c59, c60, c61, c62, c63, c64, c65, c66, c67, c68, c69, c70, c71, c72, c73, c74, c75, c76, .inr (7, [.int 0, .ref 78, .ref 79, .ref 80, .ref 81, .ref 82, .ref 83, .ref 84, .ref 85, .int 99, .ref 86, .ref 87, .ref 88, .ref 89, .ref 90, .ref 91, .ref 92, .ref 93, .ref 94, .int 0, .int 0, .int 0, .int 0, .int 0, .int 0, .int 0, .int 0, .ref 95, .ref 96, .ref 97, .ref 98, .ref 99, .ref 100, .ref 101, .ref 102, .int 0, .int 0, .int 0, .long 0, .int 0, .ref 103, .ref 104, .ref 105, .ref 106, .ref 107, .ref 108, .ref 109, .ref 110, .ref 111, .ref 112, .ref 113, .ref 114, .ref 115, .ref 116, .ref 117, .ref 118, .ref 119, .ref 120, .ref 121, .ref 122, .ref 123, .ref 124, .ref 125, .int 0, .int 0, .ref 126, .ref 127, .ref 128, .ref 129]), (xI 8), (xI 192), (xI 192), (xI 192), (xJ 192), (xJ 192), (xI 192), (xJ 1536), (xI 192), (xI 192), (xZ 192), (xI 192), (xI 192), (xI 12288), (xJ 12288), (xI 12288), (xI 120), (xI 24), (xI 24), (xI 24), (xJ 24), (xJ 24), (xI 24), (xJ 192), (xI 4096), (xI 192), (xI 192), (xI 192), (xI 192), (xI 12288), (xJ 12288), (xI 12288), (xJ 16), (xI 8), (xI 192), (xI 192), (xI 192), (xJ 192), (xJ 192), (xI 192), (xJ 1536), (xI 192), (xI 192), (xI 192), (xI 192), (xI 12288), (xJ 12288), (xI 12288), (xZ 4), (xI 4), (xI 4), (xJ 160)], 52, 123220)) := by
  refine wLan 1 i143_0 rfl rfl ?_
  refine tObj i143_1 l143_7 (by decide) ?_
  refine wLan 5 i143_4 rfl rfl ?_
  refine wKb 7 8 i143_5 (by decide) rfl ?_
  refine eNewA (n := 78) (N := 8) (c := (xI 8)) 52 123220 51 123212 i143_7 (by decide) (by decide) rfl rfl rfl rfl ?_
  refine tHeap (h' := [c0, c1, c2, c3, c4, c5, c6, c7, c8, c9, c10, c11, c12, c13, c14, c15, c16, c17, c18, c19, c20, c21, c22, c23, c24, c25, c26, c27, c28, c29, c30, c31, c32, c33, c34, c35, c36, c37, c38, c39, c40, c41, c42, c43, c44, c45, c46, c47, c48, c49, c50, c51, c52, c53, c54, c55, c56, c57, c58, c59, c60, c61, c62, c63, c64, c65, c66, c67, c68, c69, c70, c71, c72, c73, c74, c75, c76, .inr (7, [.int 0, .null, .null, .null, .null, .null, .null, .null, .null, .int 0, .null, .null, .null, .null, .null, .null, .null, .null, .null, .int 0, .int 0, .int 0, .int 0, .int 0, .int 0, .int 0, .int 0, .null, .null, .null, .null, .null, .null, .null, .null, .int 0, .int 0, .int 0, .long 0, .int 0, .null, .null, .null, .null, .null, .null, .null, .null, .null, .null, .null, .null, .null, .null, .null, .null, .null, .null, .null, .null, .null, .null, .null, .int 0, .int 0, .null, .null, .null, .null]), (xI 8)]) rfl ?_
  refine wPut 12 i143_9 p143_13 rfl (by decide) rfl rfl rfl ?_
  refine tHeap (h' := [c0, c1, c2, c3, c4, c5, c6, c7, c8, c9, c10, c11, c12, c13, c14, c15, c16, c17, c18, c19, c20, c21, c22, c23, c24, c25, c26, c27, c28, c29, c30, c31, c32, c33, c34, c35, c36, c37, c38, c39, c40, c41, c42, c43, c44, c45, c46, c47, c48, c49, c50, c51, c52, c53, c54, c55, c56, c57, c58, c59, c60, c61, c62, c63, c64, c65, c66, c67, c68, c69, c70, c71, c72, c73, c74, c75, c76, .inr (7, [.int 0, .ref 78, .null, .null, .null, .null, .null, .null, .null, .int 0, .null, .null, .null, .null, .null, .null, .null, .null, .null, .int 0, .int 0, .int 0, .int 0, .int 0, .int 0, .int 0, .int 0, .null, .null, .null, .null, .null, .null, .null, .null, .int 0, .int 0, .int 0, .long 0, .int 0, .null, .null, .null, .null, .null, .null, .null, .null, .null, .null, .null, .null, .null, .null, .null, .null, .null, .null, .null, .null, .null, .null, .null, .int 0, .int 0, .null, .null, .null, .null]), (xI 8)]) rfl ?_
  refine wLan 13 i143_12 rfl rfl ?_
  refine wKs 16 192 i143_13 (by decide) rfl ?_
  refine eNewA (n := 79) (N := 192) (c := (xI 192)) 51 123212 50 123020 i143_16 (by decide) (by decide) rfl rfl rfl rfl ?_
  refine tHeap (h' := [c0, c1, c2, c3, c4, c5, c6, c7, c8, c9, c10, c11, c12, c13, c14, c15, c16, c17, c18, c19, c20, c21, c22, c23, c24, c25, c26, c27, c28, c29, c30, c31, c32, c33, c34, c35, c36, c37, c38, c39, c40, c41, c42, c43, c44, c45, c46, c47, c48, c49, c50, c51, c52, c53, c54, c55, c56, c57, c58, c59, c60, c61, c62, c63, c64, c65, c66, c67, c68, c69, c70, c71, c72, c73, c74, c75, c76, .inr (7, [.int 0, .ref 78, .null, .null, .null, .null, .null, .null, .null, .int 0, .null, .null, .null, .null, .null, .null, .null, .null, .null, .int 0, .int 0, .int 0, .int 0, .int 0, .int 0, .int 0, .int 0, .null, .null, .null, .null, .null, .null, .null, .null, .int 0, .int 0, .int 0, .long 0, .int 0, .null, .null, .null, .null, .null, .null, .null, .null, .null, .null, .null, .null, .null, .null, .null, .null, .null, .null, .null, .null, .null, .null, .null, .int 0, .int 0, .null, .null, .null, .null]), (xI 8), (xI 192)]) rfl ?_
  refine wPut 21 i143_18 p143_17 rfl (by decide) rfl rfl rfl ?_
  refine tHeap (h' := [c0, c1, c2, c3, c4, c5, c6, c7, c8, c9, c10, c11, c12, c13, c14, c15, c16, c17, c18, c19, c20, c21, c22, c23, c24, c25, c26, c27, c28, c29, c30, c31, c32, c33, c34, c35, c36, c37, c38, c39, c40, c41, c42, c43, c44, c45, c46, c47, c48, c49, c50, c51, c52, c53, c54, c55, c56, c57, c58, c59, c60, c61, c62, c63, c64, c65, c66, c67, c68, c69, c70, c71, c72, c73, c74, c75, c76, .inr (7, [.int 0, .ref 78, .ref 79, .null, .null, .null, .null, .null, .null, .int 0, .null, .null, .null, .null, .null, .null, .null, .null, .null, .int 0, .int 0, .int 0, .int 0, .int 0, .int 0, .int 0, .int 0, .null, .null, .null, .null, .null, .null, .null, .null, .int 0, .int 0, .int 0, .long 0, .int 0, .null, .null, .null, .null, .null, .null, .null, .null, .null, .null, .null, .null, .null, .null, .null, .null, .null, .null, .null, .null, .null, .null, .null, .int 0, .int 0, .null, .null, .null, .null]), (xI 8), (xI 192)]) rfl ?_
  refine wLan 22 i143_21 rfl rfl ?_
  refine wKs 25 192 i143_22 (by decide) rfl ?_
  refine eNewA (n := 80) (N := 192) (c := (xI 192)) 50 123020 49 122828 i143_25 (by decide) (by decide) rfl rfl rfl rfl ?_
  refine tHeap (h' := [c0, c1, c2, c3, c4, c5, c6, c7, c8, c9, c10, c11, c12, c13, c14, c15, c16, c17, c18, c19, c20, c21, c22, c23, c24, c25, c26, c27, c28, c29, c30, c31, c32, c33, c34, c35, c36, c37, c38, c39, c40, c41, c42, c43, c44, c45, c46, c47, c48, c49, c50, c51, c52, c53, c54, c55, c56, c57, c58, c59, c60, c61, c62, c63, c64, c65, c66, c67, c68, c69, c70, c71, c72, c73, c74, c75, c76, .inr (7, [.int 0, .ref 78, .ref 79, .null, .null, .null, .null, .null, .null, .int 0, .null, .null, .null, .null, .null, .null, .null, .null, .null, .int 0, .int 0, .int 0, .int 0, .int 0, .int 0, .int 0, .int 0, .null, .null, .null, .null, .null, .null, .null, .null, .int 0, .int 0, .int 0, .long 0, .int 0, .null, .null, .null, .null, .null, .null, .null, .null, .null, .null, .null, .null, .null, .null, .null, .null, .null, .null, .null, .null, .null, .null, .null, .int 0, .int 0, .null, .null, .null, .null]), (xI 8), (xI 192), (xI 192)]) rfl ?_
  refine wPut 30 i143_27 p143_20 rfl (by decide) rfl rfl rfl ?_
  refine tHeap (h' := [c0, c1, c2, c3, c4, c5, c6, c7, c8, c9, c10, c11, c12, c13, c14, c15, c16, c17, c18, c19, c20, c21, c22, c23, c24, c25, c26, c27, c28, c29, c30, c31, c32, c33, c34, c35, c36, c37, c38, c39, c40, c41, c42, c43, c44, c45, c46, c47, c48, c49, c50, c51, c52, c53, c54, c55, c56, c57, c58, c59, c60, c61, c62, c63, c64, c65, c66, c67, c68, c69, c70, c71, c72, c73, c74, c75, c76, .inr (7, [.int 0, .ref 78, .ref 79, .ref 80, .null, .null, .null, .null, .null, .int 0, .null, .null, .null, .null, .null, .null, .null, .null, .null, .int 0, .int 0, .int 0, .int 0, .int 0, .int 0, .int 0, .int 0, .null, .null, .null, .null, .null, .null, .null, .null, .int 0, .int 0, .int 0, .long 0, .int 0, .null, .null, .null, .null, .null, .null, .null, .null, .null, .null, .null, .null, .null, .null, .null, .null, .null, .null, .null, .null, .null, .null, .null, .int 0, .int 0, .null, .null, .null, .null]), (xI 8), (xI 192), (xI 192)]) rfl ?_
  refine wLan 31 i143_30 rfl rfl ?_
  refine wKs 34 192 i143_31 (by decide) rfl ?_
  refine eNewA (n := 81) (N := 192) (c := (xI 192)) 49 122828 48 122636 i143_34 (by decide) (by decide) rfl rfl rfl rfl ?_
  refine tHeap (h' := [c0, c1, c2, c3, c4, c5, c6, c7, c8, c9, c10, c11, c12, c13, c14, c15, c16, c17, c18, c19, c20, c21, c22, c23, c24, c25, c26, c27, c28, c29, c30, c31, c32, c33, c34, c35, c36, c37, c38, c39, c40, c41, c42, c43, c44, c45, c46, c47, c48, c49, c50, c51, c52, c53, c54, c55, c56, c57, c58, c59, c60, c61, c62, c63, c64, c65, c66, c67, c68, c69, c70, c71, c72, c73, c74, c75, c76, .inr (7, [.int 0, .ref 78, .ref 79, .ref 80, .null, .null, .null, .null, .null, .int 0, .null, .null, .null, .null, .null, .null, .null, .null, .null, .int 0, .int 0, .int 0, .int 0, .int 0, .int 0, .int 0, .int 0, .null, .null, .null, .null, .null, .null, .null, .null, .int 0, .int 0, .int 0, .long 0, .int 0, .null, .null, .null, .null, .null, .null, .null, .null, .null, .null, .null, .null, .null, .null, .null, .null, .null, .null, .null, .null, .null, .null, .null, .int 0, .int 0, .null, .null, .null, .null]), (xI 8), (xI 192), (xI 192), (xI 192)]) rfl ?_
  refine wPut 39 i143_36 p143_23 rfl (by decide) rfl rfl rfl ?_
  refine tHeap (h' := [c0, c1, c2, c3, c4, c5, c6, c7, c8, c9, c10, c11, c12, c13, c14, c15, c16, c17, c18, c19, c20, c21, c22, c23, c24, c25, c26, c27, c28, c29, c30, c31, c32, c33, c34, c35, c36, c37, c38, c39, c40, c41, c42, c43, c44, c45, c46, c47, c48, c49, c50, c51, c52, c53, c54, c55, c56, c57, c58, c59, c60, c61, c62, c63, c64, c65, c66, c67, c68, c69, c70, c71, c72, c73, c74, c75, c76, .inr (7, [.int 0, .ref 78, .ref 79, .ref 80, .ref 81, .null, .null, .null, .null, .int 0, .null, .null, .null, .null, .null, .null, .null, .null, .null, .int 0, .int 0, .int 0, .int 0, .int 0, .int 0, .int 0, .int 0, .null, .null, .null, .null, .null, .null, .null, .null, .int 0, .int 0, .int 0, .long 0, .int 0, .null, .null, .null, .null, .null, .null, .null, .null, .null, .null, .null, .null, .null, .null, .null, .null, .null, .null, .null, .null, .null, .null, .null, .int 0, .int 0, .null, .null, .null, .null]), (xI 8), (xI 192), (xI 192), (xI 192)]) rfl ?_
  refine wLan 40 i143_39 rfl rfl ?_
  refine wKs 43 192 i143_40 (by decide) rfl ?_
  refine eNewA (n := 82) (N := 192) (c := (xJ 192)) 48 122636 47 122444 i143_43 (by decide) (by decide) rfl rfl rfl rfl ?_
  refine tHeap (h' := [c0, c1, c2, c3, c4, c5, c6, c7, c8, c9, c10, c11, c12, c13, c14, c15, c16, c17, c18, c19, c20, c21, c22, c23, c24, c25, c26, c27, c28, c29, c30, c31, c32, c33, c34, c35, c36, c37, c38, c39, c40, c41, c42, c43, c44, c45, c46, c47, c48, c49, c50, c51, c52, c53, c54, c55, c56, c57, c58, c59, c60, c61, c62, c63, c64, c65, c66, c67, c68, c69, c70, c71, c72, c73, c74, c75, c76, .inr (7, [.int 0, .ref 78, .ref 79, .ref 80, .ref 81, .null, .null, .null, .null, .int 0, .null, .null, .null, .null, .null, .null, .null, .null, .null, .int 0, .int 0, .int 0, .int 0, .int 0, .int 0, .int 0, .int 0, .null, .null, .null, .null, .null, .null, .null, .null, .int 0, .int 0, .int 0, .long 0, .int 0, .null, .null, .null, .null, .null, .null, .null, .null, .null, .null, .null, .null, .null, .null, .null, .null, .null, .null, .null, .null, .null, .null, .null, .int 0, .int 0, .null, .null, .null, .null]), (xI 8), (xI 192), (xI 192), (xI 192), (xJ 192)]) rfl ?_
  refine wPut 48 i143_45 p143_26 rfl (by decide) rfl rfl rfl ?_
  refine tHeap (h' := [c0, c1, c2, c3, c4, c5, c6, c7, c8, c9, c10, c11, c12, c13, c14, c15, c16, c17, c18, c19, c20, c21, c22, c23, c24, c25, c26, c27, c28, c29, c30, c31, c32, c33, c34, c35, c36, c37, c38, c39, c40, c41, c42, c43, c44, c45, c46, c47, c48, c49, c50, c51, c52, c53, c54, c55, c56, c57, c58, c59, c60, c61, c62, c63, c64, c65, c66, c67, c68, c69, c70, c71, c72, c73, c74, c75, c76, .inr (7, [.int 0, .ref 78, .ref 79, .ref 80, .ref 81, .ref 82, .null, .null, .null, .int 0, .null, .null, .null, .null, .null, .null, .null, .null, .null, .int 0, .int 0, .int 0, .int 0, .int 0, .int 0, .int 0, .int 0, .null, .null, .null, .null, .null, .null, .null, .null, .int 0, .int 0, .int 0, .long 0, .int 0, .null, .null, .null, .null, .null, .null, .null, .null, .null, .null, .null, .null, .null, .null, .null, .null, .null, .null, .null, .null, .null, .null, .null, .int 0, .int 0, .null, .null, .null, .null]), (xI 8), (xI 192), (xI 192), (xI 192), (xJ 192)]) rfl ?_
  refine wLan 49 i143_48 rfl rfl ?_
  refine wKs 52 192 i143_49 (by decide) rfl ?_
  refine eNewA (n := 83) (N := 192) (c := (xJ 192)) 47 122444 46 122252 i143_52 (by decide) (by decide) rfl rfl rfl rfl ?_
  refine tHeap (h' := [c0, c1, c2, c3, c4, c5, c6, c7, c8, c9, c10, c11, c12, c13, c14, c15, c16, c17, c18, c19, c20, c21, c22, c23, c24, c25, c26, c27, c28, c29, c30, c31, c32, c33, c34, c35, c36, c37, c38, c39, c40, c41, c42, c43, c44, c45, c46, c47, c48, c49, c50, c51, c52, c53, c54, c55, c56, c57, c58, c59, c60, c61, c62, c63, c64, c65, c66, c67, c68, c69, c70, c71, c72, c73, c74, c75, c76, .inr (7, [.int 0, .ref 78, .ref 79, .ref 80, .ref 81, .ref 82, .null, .null, .null, .int 0, .null, .null, .null, .null, .null, .null, .null, .null, .null, .int 0, .int 0, .int 0, .int 0, .int 0, .int 0, .int 0, .int 0, .null, .null, .null, .null, .null, .null, .null, .null, .int 0, .int 0, .int 0, .long 0, .int 0, .null, .null, .null, .null, .null, .null, .null, .null, .null, .null, .null, .null, .null, .null, .null, .null, .null, .null, .null, .null, .null, .null, .null, .int 0, .int 0, .null, .null, .null, .null]), (xI 8), (xI 192), (xI 192), (xI 192), (xJ 192), (xJ 192)]) rfl ?_
  refine wPut 57 i143_54 p143_30 rfl (by decide) rfl rfl rfl ?_
  refine tHeap (h' := [c0, c1, c2, c3, c4, c5, c6, c7, c8, c9, c10, c11, c12, c13, c14, c15, c16, c17, c18, c19, c20, c21, c22, c23, c24, c25, c26, c27, c28, c29, c30, c31, c32, c33, c34, c35, c36, c37, c38, c39, c40, c41, c42, c43, c44, c45, c46, c47, c48, c49, c50, c51, c52, c53, c54, c55, c56, c57, c58, c59, c60, c61, c62, c63, c64, c65, c66, c67, c68, c69, c70, c71, c72, c73, c74, c75, c76, .inr (7, [.int 0, .ref 78, .ref 79, .ref 80, .ref 81, .ref 82, .ref 83, .null, .null, .int 0, .null, .null, .null, .null, .null, .null, .null, .null, .null, .int 0, .int 0, .int 0, .int 0, .int 0, .int 0, .int 0, .int 0, .null, .null, .null, .null, .null, .null, .null, .null, .int 0, .int 0, .int 0, .long 0, .int 0, .null, .null, .null, .null, .null, .null, .null, .null, .null, .null, .null, .null, .null, .null, .null, .null, .null, .null, .null, .null, .null, .null, .null, .int 0, .int 0, .null, .null, .null, .null]), (xI 8), (xI 192), (xI 192), (xI 192), (xJ 192), (xJ 192)]) rfl ?_
  refine wLan 58 i143_57 rfl rfl ?_
  refine wKs 61 192 i143_58 (by decide) rfl ?_
  refine eNewA (n := 84) (N := 192) (c := (xI 192)) 46 122252 45 122060 i143_61 (by decide) (by decide) rfl rfl rfl rfl ?_
  refine tHeap (h' := [c0, c1, c2, c3, c4, c5, c6, c7, c8, c9, c10, c11, c12, c13, c14, c15, c16, c17, c18, c19, c20, c21, c22, c23, c24, c25, c26, c27, c28, c29, c30, c31, c32, c33, c34, c35, c36, c37, c38, c39, c40, c41, c42, c43, c44, c45, c46, c47, c48, c49, c50, c51, c52, c53, c54, c55, c56, c57, c58, c59, c60, c61, c62, c63, c64, c65, c66, c67, c68, c69, c70, c71, c72, c73, c74, c75, c76, .inr (7, [.int 0, .ref 78, .ref 79, .ref 80, .ref 81, .ref 82, .ref 83, .null, .null, .int 0, .null, .null, .null, .null, .null, .null, .null, .null, .null, .int 0, .int 0, .int 0, .int 0, .int 0, .int 0, .int 0, .int 0, .null, .null, .null, .null, .null, .null, .null, .null, .int 0, .int 0, .int 0, .long 0, .int 0, .null, .null, .null, .null, .null, .null, .null, .null, .null, .null, .null, .null, .null, .null, .null, .null, .null, .null, .null, .null, .null, .null, .null, .int 0, .int 0, .null, .null, .null, .null]), (xI 8), (xI 192), (xI 192), (xI 192), (xJ 192), (xJ 192), (xI 192)]) rfl ?_
  refine wPut 66 i143_63 p143_33 rfl (by decide) rfl rfl rfl ?_
  refine tHeap (h' := [c0, c1, c2, c3, c4, c5, c6, c7, c8, c9, c10, c11, c12, c13, c14, c15, c16, c17, c18, c19, c20, c21, c22, c23, c24, c25, c26, c27, c28, c29, c30, c31, c32, c33, c34, c35, c36, c37, c38, c39, c40, c41, c42, c43, c44, c45, c46, c47, c48, c49, c50, c51, c52, c53, c54, c55, c56, c57, c58, c59, c60, c61, c62, c63, c64, c65, c66, c67, c68, c69, c70, c71, c72, c73, c74, c75, c76, .inr (7, [.int 0, .ref 78, .ref 79, .ref 80, .ref 81, .ref 82, .ref 83, .ref 84, .null, .int 0, .null, .null, .null, .null, .null, .null, .null, .null, .null, .int 0, .int 0, .int 0, .int 0, .int 0, .int 0, .int 0, .int 0, .null, .null, .null, .null, .null, .null, .null, .null, .int 0, .int 0, .int 0, .long 0, .int 0, .null, .null, .null, .null, .null, .null, .null, .null, .null, .null, .null, .null, .null, .null, .null, .null, .null, .null, .null, .null, .null, .null, .null, .int 0, .int 0, .null, .null, .null, .null]), (xI 8), (xI 192), (xI 192), (xI 192), (xJ 192), (xJ 192), (xI 192)]) rfl ?_
  refine wLan 67 i143_66 rfl rfl ?_
  refine wKs 70 1536 i143_67 (by decide) rfl ?_
  refine eNewA (n := 85) (N := 1536) (c := (xJ 1536)) 45 122060 44 120524 i143_70 (by decide) (by decide) rfl rfl rfl rfl ?_
  refine tHeap (h' := [c0, c1, c2, c3, c4, c5, c6, c7, c8, c9, c10, c11, c12, c13, c14, c15, c16, c17, c18, c19, c20, c21, c22, c23, c24, c25, c26, c27, c28, c29, c30, c31, c32, c33, c34, c35, c36, c37, c38, c39, c40, c41, c42, c43, c44, c45, c46, c47, c48, c49, c50, c51, c52, c53, c54, c55, c56, c57, c58, c59, c60, c61, c62, c63, c64, c65, c66, c67, c68, c69, c70, c71, c72, c73, c74, c75, c76, .inr (7, [.int 0, .ref 78, .ref 79, .ref 80, .ref 81, .ref 82, .ref 83, .ref 84, .null, .int 0, .null, .null, .null, .null, .null, .null, .null, .null, .null, .int 0, .int 0, .int 0, .int 0, .int 0, .int 0, .int 0, .int 0, .null, .null, .null, .null, .null, .null, .null, .null, .int 0, .int 0, .int 0, .long 0, .int 0, .null, .null, .null, .null, .null, .null, .null, .null, .null, .null, .null, .null, .null, .null, .null, .null, .null, .null, .null, .null, .null, .null, .null, .int 0, .int 0, .null, .null, .null, .null]), (xI 8), (xI 192), (xI 192), (xI 192), (xJ 192), (xJ 192), (xI 192), (xJ 1536)]) rfl ?_
  refine wPut 75 i143_72 p143_36 rfl (by decide) rfl rfl rfl ?_
  refine tHeap (h' := [c0, c1, c2, c3, c4, c5, c6, c7, c8, c9, c10, c11, c12, c13, c14, c15, c16, c17, c18, c19, c20, c21, c22, c23, c24, c25, c26, c27, c28, c29, c30, c31, c32, c33, c34, c35, c36, c37, c38, c39, c40, c41, c42, c43, c44, c45, c46, c47, c48, c49, c50, c51, c52, c53, c54, c55, c56, c57, c58, c59, c60, c61, c62, c63, c64, c65, c66, c67, c68, c69, c70, c71, c72, c73, c74, c75, c76, .inr (7, [.int 0, .ref 78, .ref 79, .ref 80, .ref 81, .ref 82, .ref 83, .ref 84, .ref 85, .int 0, .null, .null, .null, .null, .null, .null, .null, .null, .null, .int 0, .int 0, .int 0, .int 0, .int 0, .int 0, .int 0, .int 0, .null, .null, .null, .null, .null, .null, .null, .null, .int 0, .int 0, .int 0, .long 0, .int 0, .null, .null, .null, .null, .null, .null, .null, .null, .null, .null, .null, .null, .null, .null, .null, .null, .null, .null, .null, .null, .null, .null, .null, .int 0, .int 0, .null, .null, .null, .null]), (xI 8), (xI 192), (xI 192), (xI 192), (xJ 192), (xJ 192), (xI 192), (xJ 1536)]) rfl ?_
  refine wLan 76 i143_75 rfl rfl ?_
  refine wKb 78 99 i143_76 (by decide) rfl ?_
  refine wPut 81 i143_78 p143_39 rfl (by decide) rfl rfl rfl ?_
  refine tHeap (h' := [c0, c1, c2, c3, c4, c5, c6, c7, c8, c9, c10, c11, c12, c13, c14, c15, c16, c17, c18, c19, c20, c21, c22, c23, c24, c25, c26, c27, c28, c29, c30, c31, c32, c33, c34, c35, c36, c37, c38, c39, c40, c41, c42, c43, c44, c45, c46, c47, c48, c49, c50, c51, c52, c53, c54, c55, c56, c57, c58, c59, c60, c61, c62, c63, c64, c65, c66, c67, c68, c69, c70, c71, c72, c73, c74, c75, c76, .inr (7, [.int 0, .ref 78, .ref 79, .ref 80, .ref 81, .ref 82, .ref 83, .ref 84, .ref 85, .int 99, .null, .null, .null, .null, .null, .null, .null, .null, .null, .int 0, .int 0, .int 0, .int 0, .int 0, .int 0, .int 0, .int 0, .null, .null, .null, .null, .null, .null, .null, .null, .int 0, .int 0, .int 0, .long 0, .int 0, .null, .null, .null, .null, .null, .null, .null, .null, .null, .null, .null, .null, .null, .null, .null, .null, .null, .null, .null, .null, .null, .null, .null, .int 0, .int 0, .null, .null, .null, .null]), (xI 8), (xI 192), (xI 192), (xI 192), (xJ 192), (xJ 192), (xI 192), (xJ 1536)]) rfl ?_
  refine wLan 82 i143_81 rfl rfl ?_
  refine wKs 85 192 i143_82 (by decide) rfl ?_
  refine eNewA (n := 86) (N := 192) (c := (xI 192)) 44 120524 43 120332 i143_85 (by decide) (by decide) rfl rfl rfl rfl ?_
  refine tHeap (h' := [c0, c1, c2, c3, c4, c5, c6, c7, c8, c9, c10, c11, c12, c13, c14, c15, c16, c17, c18, c19, c20, c21, c22, c23, c24, c25, c26, c27, c28, c29, c30, c31, c32, c33, c34, c35, c36, c37, c38, c39, c40, c41, c42, c43, c44, c45, c46, c47, c48, c49, c50, c51, c52, c53, c54, c55, c56, c57, c58, c59, c60, c61, c62, c63, c64, c65, c66, c67, c68, c69, c70, c71, c72, c73, c74, c75, c76, .inr (7, [.int 0, .ref 78, .ref 79, .ref 80, .ref 81, .ref 82, .ref 83, .ref 84, .ref 85, .int 99, .null, .null, .null, .null, .null, .null, .null, .null, .null, .int 0, .int 0, .int 0, .int 0, .int 0, .int 0, .int 0, .int 0, .null, .null, .null, .null, .null, .null, .null, .null, .int 0, .int 0, .int 0, .long 0, .int 0, .null, .null, .null, .null, .null, .null, .null, .null, .null, .null, .null, .null, .null, .null, .null, .null, .null, .null, .null, .null, .null, .null, .null, .int 0, .int 0, .null, .null, .null, .null]), (xI 8), (xI 192), (xI 192), (xI 192), (xJ 192), (xJ 192), (xI 192), (xJ 1536), (xI 192)]) rfl ?_
  refine wPut 90 i143_87 p143_42 rfl (by decide) rfl rfl rfl ?_
  refine tHeap (h' := [c0, c1, c2, c3, c4, c5, c6, c7, c8, c9, c10, c11, c12, c13, c14, c15, c16, c17, c18, c19, c20, c21, c22, c23, c24, c25, c26, c27, c28, c29, c30, c31, c32, c33, c34, c35, c36, c37, c38, c39, c40, c41, c42, c43, c44, c45, c46, c47, c48, c49, c50, c51, c52, c53, c54, c55, c56, c57, c58, c59, c60, c61, c62, c63, c64, c65, c66, c67, c68, c69, c70, c71, c72, c73, c74, c75, c76, .inr (7, [.int 0, .ref 78, .ref 79, .ref 80, .ref 81, .ref 82, .ref 83, .ref 84, .ref 85, .int 99, .ref 86, .null, .null, .null, .null, .null, .null, .null, .null, .int 0, .int 0, .int 0, .int 0, .int 0, .int 0, .int 0, .int 0, .null, .null, .null, .null, .null, .null, .null, .null, .int 0, .int 0, .int 0, .long 0, .int 0, .null, .null, .null, .null, .null, .null, .null, .null, .null, .null, .null, .null, .null, .null, .null, .null, .null, .null, .null, .null, .null, .null, .null, .int 0, .int 0, .null, .null, .null, .null]), (xI 8), (xI 192), (xI 192), (xI 192), (xJ 192), (xJ 192), (xI 192), (xJ 1536), (xI 192)]) rfl ?_
  refine wLan 91 i143_90 rfl rfl ?_
  refine wKs 94 192 i143_91 (by decide) rfl ?_
  refine eNewA (n := 87) (N := 192) (c := (xI 192)) 43 120332 42 120140 i143_94 (by decide) (by decide) rfl rfl rfl rfl ?_
  refine tHeap (h' := [c0, c1, c2, c3, c4, c5, c6, c7, c8, c9, c10, c11, c12, c13, c14, c15, c16, c17, c18, c19, c20, c21, c22, c23, c24, c25, c26, c27, c28, c29, c30, c31, c32, c33, c34, c35, c36, c37, c38, c39, c40, c41, c42, c43, c44, c45, c46, c47, c48, c49, c50, c51, c52, c53, c54, c55, c56, c57, c58, c59, c60, c61, c62, c63, c64, c65, c66, c67, c68, c69, c70, c71, c72, c73, c74, c75, c76, .inr (7, [.int 0, .ref 78, .ref 79, .ref 80, .ref 81, .ref 82, .ref 83, .ref 84, .ref 85, .int 99, .ref 86, .null, .null, .null, .null, .null, .null, .null, .null, .int 0, .int 0, .int 0, .int 0, .int 0, .int 0, .int 0, .int 0, .null, .null, .null, .null, .null, .null, .null, .null, .int 0, .int 0, .int 0, .long 0, .int 0, .null, .null, .null, .null, .null, .null, .null, .null, .null, .null, .null, .null, .null, .null, .null, .null, .null, .null, .null, .null, .null, .null, .null, .int 0, .int 0, .null, .null, .null, .null]), (xI 8), (xI 192), (xI 192), (xI 192), (xJ 192), (xJ 192), (xI 192), (xJ 1536), (xI 192), (xI 192)]) rfl ?_
  refine wPut 99 i143_96 p143_45 rfl (by decide) rfl rfl rfl ?_
  refine tHeap (h' := [c0, c1, c2, c3, c4, c5, c6, c7, c8, c9, c10, c11, c12, c13, c14, c15, c16, c17, c18, c19, c20, c21, c22, c23, c24, c25, c26, c27, c28, c29, c30, c31, c32, c33, c34, c35, c36, c37, c38, c39, c40, c41, c42, c43, c44, c45, c46, c47, c48, c49, c50, c51, c52, c53, c54, c55, c56, c57, c58, c59, c60, c61, c62, c63, c64, c65, c66, c67, c68, c69, c70, c71, c72, c73, c74, c75, c76, .inr (7, [.int 0, .ref 78, .ref 79, .ref 80, .ref 81, .ref 82, .ref 83, .ref 84, .ref 85, .int 99, .ref 86, .ref 87, .null, .null, .null, .null, .null, .null, .null, .int 0, .int 0, .int 0, .int 0, .int 0, .int 0, .int 0, .int 0, .null, .null, .null, .null, .null, .null, .null, .null, .int 0, .int 0, .int 0, .long 0, .int 0, .null, .null, .null, .null, .null, .null, .null, .null, .null, .null, .null, .null, .null, .null, .null, .null, .null, .null, .null, .null, .null, .null, .null, .int 0, .int 0, .null, .null, .null, .null]), (xI 8), (xI 192), (xI 192), (xI 192), (xJ 192), (xJ 192), (xI 192), (xJ 1536), (xI 192), (xI 192)]) rfl ?_
  refine wLan 100 i143_99 rfl rfl ?_
  refine wKs 103 192 i143_100 (by decide) rfl ?_
  refine eNewA (n := 88) (N := 192) (c := (xZ 192)) 42 120140 41 119948 i143_103 (by decide) (by decide) rfl rfl rfl rfl ?_
  refine tHeap (h' := [c0, c1, c2, c3, c4, c5, c6, c7, c8, c9, c10, c11, c12, c13, c14, c15, c16, c17, c18, c19, c20, c21, c22, c23, c24, c25, c26, c27, c28, c29, c30, c31, c32, c33, c34, c35, c36, c37, c38, c39, c40, c41, c42, c43, c44, c45, c46, c47, c48, c49, c50, c51, c52, c53, c54, c55, c56, c57, c58, c59, c60, c61, c62, c63, c64, c65, c66, c67, c68, c69, c70, c71, c72, c73, c74, c75, c76, .inr (7, [.int 0, .ref 78, .ref 79, .ref 80, .ref 81, .ref 82, .ref 83, .ref 84, .ref 85, .int 99, .ref 86, .ref 87, .null, .null, .null, .null, .null, .null, .null, .int 0, .int 0, .int 0, .int 0, .int 0, .int 0, .int 0, .int 0, .null, .null, .null, .null, .null, .null, .null, .null, .int 0, .int 0, .int 0, .long 0, .int 0, .null, .null, .null, .null, .null, .null, .null, .null, .null, .null, .null, .null, .null, .null, .null, .null, .null, .null, .null, .null, .null, .null, .null, .int 0, .int 0, .null, .null, .null, .null]), (xI 8), (xI 192), (xI 192), (xI 192), (xJ 192), (xJ 192), (xI 192), (xJ 1536), (xI 192), (xI 192), (xZ 192)]) rfl ?_
  refine wPut 108 i143_105 p143_48 rfl (by decide) rfl rfl rfl ?_
  refine tHeap (h' := [c0, c1, c2, c3, c4, c5, c6, c7, c8, c9, c10, c11, c12, c13, c14, c15, c16, c17, c18, c19, c20, c21, c22, c23, c24, c25, c26, c27, c28, c29, c30, c31, c32, c33, c34, c35, c36, c37, c38, c39, c40, c41, c42, c43, c44, c45, c46, c47, c48, c49, c50, c51, c52, c53, c54, c55, c56, c57, c58, c59, c60, c61, c62, c63, c64, c65, c66, c67, c68, c69, c70, c71, c72, c73, c74, c75, c76, .inr (7, [.int 0, .ref 78, .ref 79, .ref 80, .ref 81, .ref 82, .ref 83, .ref 84, .ref 85, .int 99, .ref 86, .ref 87, .ref 88, .null, .null, .null, .null, .null, .null, .int 0, .int 0, .int 0, .int 0, .int 0, .int 0, .int 0, .int 0, .null, .null, .null, .null, .null, .null, .null, .null, .int 0, .int 0, .int 0, .long 0, .int 0, .null, .null, .null, .null, .null, .null, .null, .null, .null, .null, .null, .null, .null, .null, .null, .null, .null, .null, .null, .null, .null, .null, .null, .int 0, .int 0, .null, .null, .null, .null]), (xI 8), (xI 192), (xI 192), (xI 192), (xJ 192), (xJ 192), (xI 192), (xJ 1536), (xI 192), (xI 192), (xZ 192)]) rfl ?_
  refine wLan 109 i143_108 rfl rfl ?_
  refine wKs 112 192 i143_109 (by decide) rfl ?_
  refine eNewA (n := 89) (N := 192) (c := (xI 192)) 41 119948 40 119756 i143_112 (by decide) (by decide) rfl rfl rfl rfl ?_
  refine tHeap (h' := [c0, c1, c2, c3, c4, c5, c6, c7, c8, c9, c10, c11, c12, c13, c14, c15, c16, c17, c18, c19, c20, c21, c22, c23, c24, c25, c26, c27, c28, c29, c30, c31, c32, c33, c34, c35, c36, c37, c38, c39, c40, c41, c42, c43, c44, c45, c46, c47, c48, c49, c50, c51, c52, c53, c54, c55, c56, c57, c58, c59, c60, c61, c62, c63, c64, c65, c66, c67, c68, c69, c70, c71, c72, c73, c74, c75, c76, .inr (7, [.int 0, .ref 78, .ref 79, .ref 80, .ref 81, .ref 82, .ref 83, .ref 84, .ref 85, .int 99, .ref 86, .ref 87, .ref 88, .null, .null, .null, .null, .null, .null, .int 0, .int 0, .int 0, .int 0, .int 0, .int 0, .int 0, .int 0, .null, .null, .null, .null, .null, .null, .null, .null, .int 0, .int 0, .int 0, .long 0, .int 0, .null, .null, .null, .null, .null, .null, .null, .null, .null, .null, .null, .null, .null, .null, .null, .null, .null, .null, .null, .null, .null, .null, .null, .int 0, .int 0, .null, .null, .null, .null]), (xI 8), (xI 192), (xI 192), (xI 192), (xJ 192), (xJ 192), (xI 192), (xJ 1536), (xI 192), (xI 192), (xZ 192), (xI 192)]) rfl ?_
  refine wPut 117 i143_114 p143_52 rfl (by decide) rfl rfl rfl ?_
  refine tHeap (h' := [c0, c1, c2, c3, c4, c5, c6, c7, c8, c9, c10, c11, c12, c13, c14, c15, c16, c17, c18, c19, c20, c21, c22, c23, c24, c25, c26, c27, c28, c29, c30, c31, c32, c33, c34, c35, c36, c37, c38, c39, c40, c41, c42, c43, c44, c45, c46, c47, c48, c49, c50, c51, c52, c53, c54, c55, c56, c57, c58, c59, c60, c61, c62, c63, c64, c65, c66, c67, c68, c69, c70, c71, c72, c73, c74, c75, c76, .inr (7, [.int 0, .ref 78, .ref 79, .ref 80, .ref 81, .ref 82, .ref 83, .ref 84, .ref 85, .int 99, .ref 86, .ref 87, .ref 88, .ref 89, .null, .null, .null, .null, .null, .int 0, .int 0, .int 0, .int 0, .int 0, .int 0, .int 0, .int 0, .null, .null, .null, .null, .null, .null, .null, .null, .int 0, .int 0, .int 0, .long 0, .int 0, .null, .null, .null, .null, .null, .null, .null, .null, .null, .null, .null, .null, .null, .null, .null, .null, .null, .null, .null, .null, .null, .null, .null, .int 0, .int 0, .null, .null, .null, .null]), (xI 8), (xI 192), (xI 192), (xI 192), (xJ 192), (xJ 192), (xI 192), (xJ 1536), (xI 192), (xI 192), (xZ 192), (xI 192)]) rfl ?_
  refine wLan 118 i143_117 rfl rfl ?_
  refine wKs 121 192 i143_118 (by decide) rfl ?_
  refine eNewA (n := 90) (N := 192) (c := (xI 192)) 40 119756 39 119564 i143_121 (by decide) (by decide) rfl rfl rfl rfl ?_
  refine tHeap (h' := [c0, c1, c2, c3, c4, c5, c6, c7, c8, c9, c10, c11, c12, c13, c14, c15, c16, c17, c18, c19, c20, c21, c22, c23, c24, c25, c26, c27, c28, c29, c30, c31, c32, c33, c34, c35, c36, c37, c38, c39, c40, c41, c42, c43, c44, c45, c46, c47, c48, c49, c50, c51, c52, c53, c54, c55, c56, c57, c58, c59, c60, c61, c62, c63, c64, c65, c66, c67, c68, c69, c70, c71, c72, c73, c74, c75, c76, .inr (7, [.int 0, .ref 78, .ref 79, .ref 80, .ref 81, .ref 82, .ref 83, .ref 84, .ref 85, .int 99, .ref 86, .ref 87, .ref 88, .ref 89, .null, .null, .null, .null, .null, .int 0, .int 0, .int 0, .int 0, .int 0, .int 0, .int 0, .int 0, .null, .null, .null, .null, .null, .null, .null, .null, .int 0, .int 0, .int 0, .long 0, .int 0, .null, .null, .null, .null, .null, .null, .null, .null, .null, .null, .null, .null, .null, .null, .null, .null, .null, .null, .null, .null, .null, .null, .null, .int 0, .int 0, .null, .null, .null, .null]), (xI 8), (xI 192), (xI 192), (xI 192), (xJ 192), (xJ 192), (xI 192), (xJ 1536), (xI 192), (xI 192), (xZ 192), (xI 192), (xI 192)]) rfl ?_
  refine wPut 126 i143_123 p143_55 rfl (by decide) rfl rfl rfl ?_
  refine tHeap (h' := [c0, c1, c2, c3, c4, c5, c6, c7, c8, c9, c10, c11, c12, c13, c14, c15, c16, c17, c18, c19, c20, c21, c22, c23, c24, c25, c26, c27, c28, c29, c30, c31, c32, c33, c34, c35, c36, c37, c38, c39, c40, c41, c42, c43, c44, c45, c46, c47, c48, c49, c50, c51, c52, c53, c54, c55, c56, c57, c58, c59, c60, c61, c62, c63, c64, c65, c66, c67, c68, c69, c70, c71, c72, c73, c74, c75, c76, .inr (7, [.int 0, .ref 78, .ref 79, .ref 80, .ref 81, .ref 82, .ref 83, .ref 84, .ref 85, .int 99, .ref 86, .ref 87, .ref 88, .ref 89, .ref 90, .null, .null, .null, .null, .int 0, .int 0, .int 0, .int 0, .int 0, .int 0, .int 0, .int 0, .null, .null, .null, .null, .null, .null, .null, .null, .int 0, .int 0, .int 0, .long 0, .int 0, .null, .null, .null, .null, .null, .null, .null, .null, .null, .null, .null, .null, .null, .null, .null, .null, .null, .null, .null, .null, .null, .null, .null, .int 0, .int 0, .null, .null, .null, .null]), (xI 8), (xI 192), (xI 192), (xI 192), (xJ 192), (xJ 192), (xI 192), (xJ 1536), (xI 192), (xI 192), (xZ 192), (xI 192), (xI 192)]) rfl ?_
  refine wLan 127 i143_126 rfl rfl ?_
  refine wKs 130 12288 i143_127 (by decide) rfl ?_
  refine eNewA (n := 91) (N := 12288) (c := (xI 12288)) 39 119564 38 107276 i143_130 (by decide) (by decide) rfl rfl rfl rfl ?_
  refine tHeap (h' := [c0, c1, c2, c3, c4, c5, c6, c7, c8, c9, c10, c11, c12, c13, c14, c15, c16, c17, c18, c19, c20, c21, c22, c23, c24, c25, c26, c27, c28, c29, c30, c31, c32, c33, c34, c35, c36, c37, c38, c39, c40, c41, c42, c43, c44, c45, c46, c47, c48, c49, c50, c51, c52, c53, c54, c55, c56, c57, c58, c59, c60, c61, c62, c63, c64, c65, c66, c67, c68, c69, c70, c71, c72, c73, c74, c75, c76, .inr (7, [.int 0, .ref 78, .ref 79, .ref 80, .ref 81, .ref 82, .ref 83, .ref 84, .ref 85, .int 99, .ref 86, .ref 87, .ref 88, .ref 89, .ref 90, .null, .null, .null, .null, .int 0, .int 0, .int 0, .int 0, .int 0, .int 0, .int 0, .int 0, .null, .null, .null, .null, .null, .null, .null, .null, .int 0, .int 0, .int 0, .long 0, .int 0, .null, .null, .null, .null, .null, .null, .null, .null, .null, .null, .null, .null, .null, .null, .null, .null, .null, .null, .null, .null, .null, .null, .null, .int 0, .int 0, .null, .null, .null, .null]), (xI 8), (xI 192), (xI 192), (xI 192), (xJ 192), (xJ 192), (xI 192), (xJ 1536), (xI 192), (xI 192), (xZ 192), (xI 192), (xI 192), (xI 12288)]) rfl ?_
  refine wPut 135 i143_132 p143_58 rfl (by decide) rfl rfl rfl ?_
  refine tHeap (h' := [c0, c1, c2, c3, c4, c5, c6, c7, c8, c9, c10, c11, c12, c13, c14, c15, c16, c17, c18, c19, c20, c21, c22, c23, c24, c25, c26, c27, c28, c29, c30, c31, c32, c33, c34, c35, c36, c37, c38, c39, c40, c41, c42, c43, c44, c45, c46, c47, c48, c49, c50, c51, c52, c53, c54, c55, c56, c57, c58, c59, c60, c61, c62, c63, c64, c65, c66, c67, c68, c69, c70, c71, c72, c73, c74, c75, c76, .inr (7, [.int 0, .ref 78, .ref 79, .ref 80, .ref 81, .ref 82, .ref 83, .ref 84, .ref 85, .int 99, .ref 86, .ref 87, .ref 88, .ref 89, .ref 90, .ref 91, .null, .null, .null, .int 0, .int 0, .int 0, .int 0, .int 0, .int 0, .int 0, .int 0, .null, .null, .null, .null, .null, .null, .null, .null, .int 0, .int 0, .int 0, .long 0, .int 0, .null, .null, .null, .null, .null, .null, .null, .null, .null, .null, .null, .null, .null, .null, .null, .null, .null, .null, .null, .null, .null, .null, .null, .int 0, .int 0, .null, .null, .null, .null]), (xI 8), (xI 192), (xI 192), (xI 192), (xJ 192), (xJ 192), (xI 192), (xJ 1536), (xI 192), (xI 192), (xZ 192), (xI 192), (xI 192), (xI 12288)]) rfl ?_
  refine wLan 136 i143_135 rfl rfl ?_
  refine wKs 139 12288 i143_136 (by decide) rfl ?_
  refine eNewA (n := 92) (N := 12288) (c := (xJ 12288)) 38 107276 37 94988 i143_139 (by decide) (by decide) rfl rfl rfl rfl ?_
  refine tHeap (h' := [c0, c1, c2, c3, c4, c5, c6, c7, c8, c9, c10, c11, c12, c13, c14, c15, c16, c17, c18, c19, c20, c21, c22, c23, c24, c25, c26, c27, c28, c29, c30, c31, c32, c33, c34, c35, c36, c37, c38, c39, c40, c41, c42, c43, c44, c45, c46, c47, c48, c49, c50, c51, c52, c53, c54, c55, c56, c57, c58, c59, c60, c61, c62, c63, c64, c65, c66, c67, c68, c69, c70, c71, c72, c73, c74, c75, c76, .inr (7, [.int 0, .ref 78, .ref 79, .ref 80, .ref 81, .ref 82, .ref 83, .ref 84, .ref 85, .int 99, .ref 86, .ref 87, .ref 88, .ref 89, .ref 90, .ref 91, .null, .null, .null, .int 0, .int 0, .int 0, .int 0, .int 0, .int 0, .int 0, .int 0, .null, .null, .null, .null, .null, .null, .null, .null, .int 0, .int 0, .int 0, .long 0, .int 0, .null, .null, .null, .null, .null, .null, .null, .null, .null, .null, .null, .null, .null, .null, .null, .null, .null, .null, .null, .null, .null, .null, .null, .int 0, .int 0, .null, .null, .null, .null]), (xI 8), (xI 192), (xI 192), (xI 192), (xJ 192), (xJ 192), (xI 192), (xJ 1536), (xI 192), (xI 192), (xZ 192), (xI 192), (xI 192), (xI 12288), (xJ 12288)]) rfl ?_
  refine wPut 144 i143_141 p143_61 rfl (by decide) rfl rfl rfl ?_
  refine tHeap (h' := [c0, c1, c2, c3, c4, c5, c6, c7, c8, c9, c10, c11, c12, c13, c14, c15, c16, c17, c18, c19, c20, c21, c22, c23, c24, c25, c26, c27, c28, c29, c30, c31, c32, c33, c34, c35, c36, c37, c38, c39, c40, c41, c42, c43, c44, c45, c46, c47, c48, c49, c50, c51, c52, c53, c54, c55, c56, c57, c58, c59, c60, c61, c62, c63, c64, c65, c66, c67, c68, c69, c70, c71, c72, c73, c74, c75, c76, .inr (7, [.int 0, .ref 78, .ref 79, .ref 80, .ref 81, .ref 82, .ref 83, .ref 84, .ref 85, .int 99, .ref 86, .ref 87, .ref 88, .ref 89, .ref 90, .ref 91, .ref 92, .null, .null, .int 0, .int 0, .int 0, .int 0, .int 0, .int 0, .int 0, .int 0, .null, .null, .null, .null, .null, .null, .null, .null, .int 0, .int 0, .int 0, .long 0, .int 0, .null, .null, .null, .null, .null, .null, .null, .null, .null, .null, .null, .null, .null, .null, .null, .null, .null, .null, .null, .null, .null, .null, .null, .int 0, .int 0, .null, .null, .null, .null]), (xI 8), (xI 192), (xI 192), (xI 192), (xJ 192), (xJ 192), (xI 192), (xJ 1536), (xI 192), (xI 192), (xZ 192), (xI 192), (xI 192), (xI 12288), (xJ 12288)]) rfl ?_
  refine wLan 145 i143_144 rfl rfl ?_
  refine wKs 148 12288 i143_145 (by decide) rfl ?_
  refine eNewA (n := 93) (N := 12288) (c := (xI 12288)) 37 94988 36 82700 i143_148 (by decide) (by decide) rfl rfl rfl rfl ?_
  refine tHeap (h' := [c0, c1, c2, c3, c4, c5, c6, c7, c8, c9, c10, c11, c12, c13, c14, c15, c16, c17, c18, c19, c20, c21, c22, c23, c24, c25, c26, c27, c28, c29, c30, c31, c32, c33, c34, c35, c36, c37, c38, c39, c40, c41, c42, c43, c44, c45, c46, c47, c48, c49, c50, c51, c52, c53, c54, c55, c56, c57, c58, c59, c60, c61, c62, c63, c64, c65, c66, c67, c68, c69, c70, c71, c72, c73, c74, c75, c76, .inr (7, [.int 0, .ref 78, .ref 79, .ref 80, .ref 81, .ref 82, .ref 83, .ref 84, .ref 85, .int 99, .ref 86, .ref 87, .ref 88, .ref 89, .ref 90, .ref 91, .ref 92, .null, .null, .int 0, .int 0, .int 0, .int 0, .int 0, .int 0, .int 0, .int 0, .null, .null, .null, .null, .null, .null, .null, .null, .int 0, .int 0, .int 0, .long 0, .int 0, .null, .null, .null, .null, .null, .null, .null, .null, .null, .null, .null, .null, .null, .null, .null, .null, .null, .null, .null, .null, .null, .null, .null, .int 0, .int 0, .null, .null, .null, .null]), (xI 8), (xI 192), (xI 192), (xI 192), (xJ 192), (xJ 192), (xI 192), (xJ 1536), (xI 192), (xI 192), (xZ 192), (xI 192), (xI 192), (xI 12288), (xJ 12288), (xI 12288)]) rfl ?_
  refine wPut 153 i143_150 p143_64 rfl (by decide) rfl rfl rfl ?_
  refine tHeap (h' := [c0, c1, c2, c3, c4, c5, c6, c7, c8, c9, c10, c11, c12, c13, c14, c15, c16, c17, c18, c19, c20, c21, c22, c23, c24, c25, c26, c27, c28, c29, c30, c31, c32, c33, c34, c35, c36, c37, c38, c39, c40, c41, c42, c43, c44, c45, c46, c47, c48, c49, c50, c51, c52, c53, c54, c55, c56, c57, c58, c59, c60, c61, c62, c63, c64, c65, c66, c67, c68, c69, c70, c71, c72, c73, c74, c75, c76, .inr (7, [.int 0, .ref 78, .ref 79, .ref 80, .ref 81, .ref 82, .ref 83, .ref 84, .ref 85, .int 99, .ref 86, .ref 87, .ref 88, .ref 89, .ref 90, .ref 91, .ref 92, .ref 93, .null, .int 0, .int 0, .int 0, .int 0, .int 0, .int 0, .int 0, .int 0, .null, .null, .null, .null, .null, .null, .null, .null, .int 0, .int 0, .int 0, .long 0, .int 0, .null, .null, .null, .null, .null, .null, .null, .null, .null, .null, .null, .null, .null, .null, .null, .null, .null, .null, .null, .null, .null, .null, .null, .int 0, .int 0, .null, .null, .null, .null]), (xI 8), (xI 192), (xI 192), (xI 192), (xJ 192), (xJ 192), (xI 192), (xJ 1536), (xI 192), (xI 192), (xZ 192), (xI 192), (xI 192), (xI 12288), (xJ 12288), (xI 12288)]) rfl ?_
  refine wLan 154 i143_153 rfl rfl ?_
  refine wKb 156 120 i143_154 (by decide) rfl ?_
  refine eNewA (n := 94) (N := 120) (c := (xI 120)) 36 82700 35 82580 i143_156 (by decide) (by decide) rfl rfl rfl rfl ?_
  refine tHeap (h' := [c0, c1, c2, c3, c4, c5, c6, c7, c8, c9, c10, c11, c12, c13, c14, c15, c16, c17, c18, c19, c20, c21, c22, c23, c24, c25, c26, c27, c28, c29, c30, c31, c32, c33, c34, c35, c36, c37, c38, c39, c40, c41, c42, c43, c44, c45, c46, c47, c48, c49, c50, c51, c52, c53, c54, c55, c56, c57, c58, c59, c60, c61, c62, c63, c64, c65, c66, c67, c68, c69, c70, c71, c72, c73, c74, c75, c76, .inr (7, [.int 0, .ref 78, .ref 79, .ref 80, .ref 81, .ref 82, .ref 83, .ref 84, .ref 85, .int 99, .ref 86, .ref 87, .ref 88, .ref 89, .ref 90, .ref 91, .ref 92, .ref 93, .null, .int 0, .int 0, .int 0, .int 0, .int 0, .int 0, .int 0, .int 0, .null, .null, .null, .null, .null, .null, .null, .null, .int 0, .int 0, .int 0, .long 0, .int 0, .null, .null, .null, .null, .null, .null, .null, .null, .null, .null, .null, .null, .null, .null, .null, .null, .null, .null, .null, .null, .null, .null, .null, .int 0, .int 0, .null, .null, .null, .null]), (xI 8), (xI 192), (xI 192), (xI 192), (xJ 192), (xJ 192), (xI 192), (xJ 1536), (xI 192), (xI 192), (xZ 192), (xI 192), (xI 192), (xI 12288), (xJ 12288), (xI 12288), (xI 120)]) rfl ?_
  refine wPut 161 i143_158 p143_67 rfl (by decide) rfl rfl rfl ?_
  refine tHeap (h' := [c0, c1, c2, c3, c4, c5, c6, c7, c8, c9, c10, c11, c12, c13, c14, c15, c16, c17, c18, c19, c20, c21, c22, c23, c24, c25, c26, c27, c28, c29, c30, c31, c32, c33, c34, c35, c36, c37, c38, c39, c40, c41, c42, c43, c44, c45, c46, c47, c48, c49, c50, c51, c52, c53, c54, c55, c56, c57, c58, c59, c60, c61, c62, c63, c64, c65, c66, c67, c68, c69, c70, c71, c72, c73, c74, c75, c76, .inr (7, [.int 0, .ref 78, .ref 79, .ref 80, .ref 81, .ref 82, .ref 83, .ref 84, .ref 85, .int 99, .ref 86, .ref 87, .ref 88, .ref 89, .ref 90, .ref 91, .ref 92, .ref 93, .ref 94, .int 0, .int 0, .int 0, .int 0, .int 0, .int 0, .int 0, .int 0, .null, .null, .null, .null, .null, .null, .null, .null, .int 0, .int 0, .int 0, .long 0, .int 0, .null, .null, .null, .null, .null, .null, .null, .null, .null, .null, .null, .null, .null, .null, .null, .null, .null, .null, .null, .null, .null, .null, .null, .int 0, .int 0, .null, .null, .null, .null]), (xI 8), (xI 192), (xI 192), (xI 192), (xJ 192), (xJ 192), (xI 192), (xJ 1536), (xI 192), (xI 192), (xZ 192), (xI 192), (xI 192), (xI 12288), (xJ 12288), (xI 12288), (xI 120)]) rfl ?_
  refine wLan 162 i143_161 rfl rfl ?_
  refine wKb 164 24 i143_162 (by decide) rfl ?_
  refine eNewA (n := 95) (N := 24) (c := (xI 24)) 35 82580 34 82556 i143_164 (by decide) (by decide) rfl rfl rfl rfl ?_
  refine tHeap (h' := [c0, c1, c2, c3, c4, c5, c6, c7, c8, c9, c10, c11, c12, c13, c14, c15, c16, c17, c18, c19, c20, c21, c22, c23, c24, c25, c26, c27, c28, c29, c30, c31, c32, c33, c34, c35, c36, c37, c38, c39, c40, c41, c42, c43, c44, c45, c46, c47, c48, c49, c50, c51, c52, c53, c54, c55, c56, c57, c58, c59, c60, c61, c62, c63, c64, c65, c66, c67, c68, c69, c70, c71, c72, c73, c74, c75, c76, .inr (7, [.int 0, .ref 78, .ref 79, .ref 80, .ref 81, .ref 82, .ref 83, .ref 84, .ref 85, .int 99, .ref 86, .ref 87, .ref 88, .ref 89, .ref 90, .ref 91, .ref 92, .ref 93, .ref 94, .int 0, .int 0, .int 0, .int 0, .int 0, .int 0, .int 0, .int 0, .null, .null, .null, .null, .null, .null, .null, .null, .int 0, .int 0, .int 0, .long 0, .int 0, .null, .null, .null, .null, .null, .null, .null, .null, .null, .null, .null, .null, .null, .null, .null, .null, .null, .null, .null, .null, .null, .null, .null, .int 0, .int 0, .null, .null, .null, .null]), (xI 8), (xI 192), (xI 192), (xI 192), (xJ 192), (xJ 192), (xI 192), (xJ 1536), (xI 192), (xI 192), (xZ 192), (xI 192), (xI 192), (xI 12288), (xJ 12288), (xI 12288), (xI 120), (xI 24)]) rfl ?_
  refine wPut 169 i143_166 p143_70 rfl (by decide) rfl rfl rfl ?_
  refine tHeap (h' := [c0, c1, c2, c3, c4, c5, c6, c7, c8, c9, c10, c11, c12, c13, c14, c15, c16, c17, c18, c19, c20, c21, c22, c23, c24, c25, c26, c27, c28, c29, c30, c31, c32, c33, c34, c35, c36, c37, c38, c39, c40, c41, c42, c43, c44, c45, c46, c47, c48, c49, c50, c51, c52, c53, c54, c55, c56, c57, c58, c59, c60, c61, c62, c63, c64, c65, c66, c67, c68, c69, c70, c71, c72, c73, c74, c75, c76, .inr (7, [.int 0, .ref 78, .ref 79, .ref 80, .ref 81, .ref 82, .ref 83, .ref 84, .ref 85, .int 99, .ref 86, .ref 87, .ref 88, .ref 89, .ref 90, .ref 91, .ref 92, .ref 93, .ref 94, .int 0, .int 0, .int 0, .int 0, .int 0, .int 0, .int 0, .int 0, .ref 95, .null, .null, .null, .null, .null, .null, .null, .int 0, .int 0, .int 0, .long 0, .int 0, .null, .null, .null, .null, .null, .null, .null, .null, .null, .null, .null, .null, .null, .null, .null, .null, .null, .null, .null, .null, .null, .null, .null, .int 0, .int 0, .null, .null, .null, .null]), (xI 8), (xI 192), (xI 192), (xI 192), (xJ 192), (xJ 192), (xI 192), (xJ 1536), (xI 192), (xI 192), (xZ 192), (xI 192), (xI 192), (xI 12288), (xJ 12288), (xI 12288), (xI 120), (xI 24)]) rfl ?_
  refine wLan 170 i143_169 rfl rfl ?_
  refine wKb 172 24 i143_170 (by decide) rfl ?_
  refine eNewA (n := 96) (N := 24) (c := (xI 24)) 34 82556 33 82532 i143_172 (by decide) (by decide) rfl rfl rfl rfl ?_
  refine tHeap (h' := [c0, c1, c2, c3, c4, c5, c6, c7, c8, c9, c10, c11, c12, c13, c14, c15, c16, c17, c18, c19, c20, c21, c22, c23, c24, c25, c26, c27, c28, c29, c30, c31, c32, c33, c34, c35, c36, c37, c38, c39, c40, c41, c42, c43, c44, c45, c46, c47, c48, c49, c50, c51, c52, c53, c54, c55, c56, c57, c58, c59, c60, c61, c62, c63, c64, c65, c66, c67, c68, c69, c70, c71, c72, c73, c74, c75, c76, .inr (7, [.int 0, .ref 78, .ref 79, .ref 80, .ref 81, .ref 82, .ref 83, .ref 84, .ref 85, .int 99, .ref 86, .ref 87, .ref 88, .ref 89, .ref 90, .ref 91, .ref 92, .ref 93, .ref 94, .int 0, .int 0, .int 0, .int 0, .int 0, .int 0, .int 0, .int 0, .ref 95, .null, .null, .null, .null, .null, .null, .null, .int 0, .int 0, .int 0, .long 0, .int 0, .null, .null, .null, .null, .null, .null, .null, .null, .null, .null, .null, .null, .null, .null, .null, .null, .null, .null, .null, .null, .null, .null, .null, .int 0, .int 0, .null, .null, .null, .null]), (xI 8), (xI 192), (xI 192), (xI 192), (xJ 192), (xJ 192), (xI 192), (xJ 1536), (xI 192), (xI 192), (xZ 192), (xI 192), (xI 192), (xI 12288), (xJ 12288), (xI 12288), (xI 120), (xI 24), (xI 24)]) rfl ?_
  refine wPut 177 i143_174 p143_73 rfl (by decide) rfl rfl rfl ?_
  refine tHeap (h' := [c0, c1, c2, c3, c4, c5, c6, c7, c8, c9, c10, c11, c12, c13, c14, c15, c16, c17, c18, c19, c20, c21, c22, c23, c24, c25, c26, c27, c28, c29, c30, c31, c32, c33, c34, c35, c36, c37, c38, c39, c40, c41, c42, c43, c44, c45, c46, c47, c48, c49, c50, c51, c52, c53, c54, c55, c56, c57, c58, c59, c60, c61, c62, c63, c64, c65, c66, c67, c68, c69, c70, c71, c72, c73, c74, c75, c76, .inr (7, [.int 0, .ref 78, .ref 79, .ref 80, .ref 81, .ref 82, .ref 83, .ref 84, .ref 85, .int 99, .ref 86, .ref 87, .ref 88, .ref 89, .ref 90, .ref 91, .ref 92, .ref 93, .ref 94, .int 0, .int 0, .int 0, .int 0, .int 0, .int 0, .int 0, .int 0, .ref 95, .ref 96, .null, .null, .null, .null, .null, .null, .int 0, .int 0, .int 0, .long 0, .int 0, .null, .null, .null, .null, .null, .null, .null, .null, .null, .null, .null, .null, .null, .null, .null, .null, .null, .null, .null, .null, .null, .null, .null, .int 0, .int 0, .null, .null, .null, .null]), (xI 8), (xI 192), (xI 192), (xI 192), (xJ 192), (xJ 192), (xI 192), (xJ 1536), (xI 192), (xI 192), (xZ 192), (xI 192), (xI 192), (xI 12288), (xJ 12288), (xI 12288), (xI 120), (xI 24), (xI 24)]) rfl ?_
  refine wLan 178 i143_177 rfl rfl ?_
  refine wKb 180 24 i143_178 (by decide) rfl ?_
  refine eNewA (n := 97) (N := 24) (c := (xI 24)) 33 82532 32 82508 i143_180 (by decide) (by decide) rfl rfl rfl rfl ?_
  refine tHeap (h' := [c0, c1, c2, c3, c4, c5, c6, c7, c8, c9, c10, c11, c12, c13, c14, c15, c16, c17, c18, c19, c20, c21, c22, c23, c24, c25, c26, c27, c28, c29, c30, c31, c32, c33, c34, c35, c36, c37, c38, c39, c40, c41, c42, c43, c44, c45, c46, c47, c48, c49, c50, c51, c52, c53, c54, c55, c56, c57, c58, c59, c60, c61, c62, c63, c64, c65, c66, c67, c68, c69, c70, c71, c72, c73, c74, c75, c76, .inr (7, [.int 0, .ref 78, .ref 79, .ref 80, .ref 81, .ref 82, .ref 83, .ref 84, .ref 85, .int 99, .ref 86, .ref 87, .ref 88, .ref 89, .ref 90, .ref 91, .ref 92, .ref 93, .ref 94, .int 0, .int 0, .int 0, .int 0, .int 0, .int 0, .int 0, .int 0, .ref 95, .ref 96, .null, .null, .null, .null, .null, .null, .int 0, .int 0, .int 0, .long 0, .int 0, .null, .null, .null, .null, .null, .null, .null, .null, .null, .null, .null, .null, .null, .null, .null, .null, .null, .null, .null, .null, .null, .null, .null, .int 0, .int 0, .null, .null, .null, .null]), (xI 8), (xI 192), (xI 192), (xI 192), (xJ 192), (xJ 192), (xI 192), (xJ 1536), (xI 192), (xI 192), (xZ 192), (xI 192), (xI 192), (xI 12288), (xJ 12288), (xI 12288), (xI 120), (xI 24), (xI 24), (xI 24)]) rfl ?_
  refine wPut 185 i143_182 p143_76 rfl (by decide) rfl rfl rfl ?_
  refine tHeap (h' := [c0, c1, c2, c3, c4, c5, c6, c7, c8, c9, c10, c11, c12, c13, c14, c15, c16, c17, c18, c19, c20, c21, c22, c23, c24, c25, c26, c27, c28, c29, c30, c31, c32, c33, c34, c35, c36, c37, c38, c39, c40, c41, c42, c43, c44, c45, c46, c47, c48, c49, c50, c51, c52, c53, c54, c55, c56, c57, c58, c59, c60, c61, c62, c63, c64, c65, c66, c67, c68, c69, c70, c71, c72, c73, c74, c75, c76, .inr (7, [.int 0, .ref 78, .ref 79, .ref 80, .ref 81, .ref 82, .ref 83, .ref 84, .ref 85, .int 99, .ref 86, .ref 87, .ref 88, .ref 89, .ref 90, .ref 91, .ref 92, .ref 93, .ref 94, .int 0, .int 0, .int 0, .int 0, .int 0, .int 0, .int 0, .int 0, .ref 95, .ref 96, .ref 97, .null, .null, .null, .null, .null, .int 0, .int 0, .int 0, .long 0, .int 0, .null, .null, .null, .null, .null, .null, .null, .null, .null, .null, .null, .null, .null, .null, .null, .null, .null, .null, .null, .null, .null, .null, .null, .int 0, .int 0, .null, .null, .null, .null]), (xI 8), (xI 192), (xI 192), (xI 192), (xJ 192), (xJ 192), (xI 192), (xJ 1536), (xI 192), (xI 192), (xZ 192), (xI 192), (xI 192), (xI 12288), (xJ 12288), (xI 12288), (xI 120), (xI 24), (xI 24), (xI 24)]) rfl ?_
  refine wLan 186 i143_185 rfl rfl ?_
  refine wKb 188 24 i143_186 (by decide) rfl ?_
  refine eNewA (n := 98) (N := 24) (c := (xJ 24)) 32 82508 31 82484 i143_188 (by decide) (by decide) rfl rfl rfl rfl ?_
  refine tHeap (h' := [c0, c1, c2, c3, c4, c5, c6, c7, c8, c9, c10, c11, c12, c13, c14, c15, c16, c17, c18, c19, c20, c21, c22, c23, c24, c25, c26, c27, c28, c29, c30, c31, c32, c33, c34, c35, c36, c37, c38, c39, c40, c41, c42, c43, c44, c45, c46, c47, c48, c49, c50, c51, c52, c53, c54, c55, c56, c57, c58, c59, c60, c61, c62, c63, c64, c65, c66, c67, c68, c69, c70, c71, c72, c73, c74, c75, c76, .inr (7, [.int 0, .ref 78, .ref 79, .ref 80, .ref 81, .ref 82, .ref 83, .ref 84, .ref 85, .int 99, .ref 86, .ref 87, .ref 88, .ref 89, .ref 90, .ref 91, .ref 92, .ref 93, .ref 94, .int 0, .int 0, .int 0, .int 0, .int 0, .int 0, .int 0, .int 0, .ref 95, .ref 96, .ref 97, .null, .null, .null, .null, .null, .int 0, .int 0, .int 0, .long 0, .int 0, .null, .null, .null, .null, .null, .null, .null, .null, .null, .null, .null, .null, .null, .null, .null, .null, .null, .null, .null, .null, .null, .null, .null, .int 0, .int 0, .null, .null, .null, .null]), (xI 8), (xI 192), (xI 192), (xI 192), (xJ 192), (xJ 192), (xI 192), (xJ 1536), (xI 192), (xI 192), (xZ 192), (xI 192), (xI 192), (xI 12288), (xJ 12288), (xI 12288), (xI 120), (xI 24), (xI 24), (xI 24), (xJ 24)]) rfl ?_
  refine wPut 193 i143_190 p143_79 rfl (by decide) rfl rfl rfl ?_
  refine tHeap (h' := [c0, c1, c2, c3, c4, c5, c6, c7, c8, c9, c10, c11, c12, c13, c14, c15, c16, c17, c18, c19, c20, c21, c22, c23, c24, c25, c26, c27, c28, c29, c30, c31, c32, c33, c34, c35, c36, c37, c38, c39, c40, c41, c42, c43, c44, c45, c46, c47, c48, c49, c50, c51, c52, c53, c54, c55, c56, c57, c58, c59, c60, c61, c62, c63, c64, c65, c66, c67, c68, c69, c70, c71, c72, c73, c74, c75, c76, .inr (7, [.int 0, .ref 78, .ref 79, .ref 80, .ref 81, .ref 82, .ref 83, .ref 84, .ref 85, .int 99, .ref 86, .ref 87, .ref 88, .ref 89, .ref 90, .ref 91, .ref 92, .ref 93, .ref 94, .int 0, .int 0, .int 0, .int 0, .int 0, .int 0, .int 0, .int 0, .ref 95, .ref 96, .ref 97, .ref 98, .null, .null, .null, .null, .int 0, .int 0, .int 0, .long 0, .int 0, .null, .null, .null, .null, .null, .null, .null, .null, .null, .null, .null, .null, .null, .null, .null, .null, .null, .null, .null, .null, .null, .null, .null, .int 0, .int 0, .null, .null, .null, .null]), (xI 8), (xI 192), (xI 192), (xI 192), (xJ 192), (xJ 192), (xI 192), (xJ 1536), (xI 192), (xI 192), (xZ 192), (xI 192), (xI 192), (xI 12288), (xJ 12288), (xI 12288), (xI 120), (xI 24), (xI 24), (xI 24), (xJ 24)]) rfl ?_
  refine wLan 194 i143_193 rfl rfl ?_
  refine wKb 196 24 i143_194 (by decide) rfl ?_
  refine eNewA (n := 99) (N := 24) (c := (xJ 24)) 31 82484 30 82460 i143_196 (by decide) (by decide) rfl rfl rfl rfl ?_
  refine tHeap (h' := [c0, c1, c2, c3, c4, c5, c6, c7, c8, c9, c10, c11, c12, c13, c14, c15, c16, c17, c18, c19, c20, c21, c22, c23, c24, c25, c26, c27, c28, c29, c30, c31, c32, c33, c34, c35, c36, c37, c38, c39, c40, c41, c42, c43, c44, c45, c46, c47, c48, c49, c50, c51, c52, c53, c54, c55, c56, c57, c58, c59, c60, c61, c62, c63, c64, c65, c66, c67, c68, c69, c70, c71, c72, c73, c74, c75, c76, .inr (7, [.int 0, .ref 78, .ref 79, .ref 80, .ref 81, .ref 82, .ref 83, .ref 84, .ref 85, .int 99, .ref 86, .ref 87, .ref 88, .ref 89, .ref 90, .ref 91, .ref 92, .ref 93, .ref 94, .int 0, .int 0, .int 0, .int 0, .int 0, .int 0, .int 0, .int 0, .ref 95, .ref 96, .ref 97, .ref 98, .null, .null, .null, .null, .int 0, .int 0, .int 0, .long 0, .int 0, .null, .null, .null, .null, .null, .null, .null, .null, .null, .null, .null, .null, .null, .null, .null, .null, .null, .null, .null, .null, .null, .null, .null, .int 0, .int 0, .null, .null, .null, .null]), (xI 8), (xI 192), (xI 192), (xI 192), (xJ 192), (xJ 192), (xI 192), (xJ 1536), (xI 192), (xI 192), (xZ 192), (xI 192), (xI 192), (xI 12288), (xJ 12288), (xI 12288), (xI 120), (xI 24), (xI 24), (xI 24), (xJ 24), (xJ 24)]) rfl ?_
  refine wPut 201 i143_198 p143_82 rfl (by decide) rfl rfl rfl ?_
  refine tHeap (h' := [c0, c1, c2, c3, c4, c5, c6, c7, c8, c9, c10, c11, c12, c13, c14, c15, c16, c17, c18, c19, c20, c21, c22, c23, c24, c25, c26, c27, c28, c29, c30, c31, c32, c33, c34, c35, c36, c37, c38, c39, c40, c41, c42, c43, c44, c45, c46, c47, c48, c49, c50, c51, c52, c53, c54, c55, c56, c57, c58, c59, c60, c61, c62, c63, c64, c65, c66, c67, c68, c69, c70, c71, c72, c73, c74, c75, c76, .inr (7, [.int 0, .ref 78, .ref 79, .ref 80, .ref 81, .ref 82, .ref 83, .ref 84, .ref 85, .int 99, .ref 86, .ref 87, .ref 88, .ref 89, .ref 90, .ref 91, .ref 92, .ref 93, .ref 94, .int 0, .int 0, .int 0, .int 0, .int 0, .int 0, .int 0, .int 0, .ref 95, .ref 96, .ref 97, .ref 98, .ref 99, .null, .null, .null, .int 0, .int 0, .int 0, .long 0, .int 0, .null, .null, .null, .null, .null, .null, .null, .null, .null, .null, .null, .null, .null, .null, .null, .null, .null, .null, .null, .null, .null, .null, .null, .int 0, .int 0, .null, .null, .null, .null]), (xI 8), (xI 192), (xI 192), (xI 192), (xJ 192), (xJ 192), (xI 192), (xJ 1536), (xI 192), (xI 192), (xZ 192), (xI 192), (xI 192), (xI 12288), (xJ 12288), (xI 12288), (xI 120), (xI 24), (xI 24), (xI 24), (xJ 24), (xJ 24)]) rfl ?_
  refine wLan 202 i143_201 rfl rfl ?_
  refine wKb 204 24 i143_202 (by decide) rfl ?_
  refine eNewA (n := 100) (N := 24) (c := (xI 24)) 30 82460 29 82436 i143_204 (by decide) (by decide) rfl rfl rfl rfl ?_
  refine tHeap (h' := [c0, c1, c2, c3, c4, c5, c6, c7, c8, c9, c10, c11, c12, c13, c14, c15, c16, c17, c18, c19, c20, c21, c22, c23, c24, c25, c26, c27, c28, c29, c30, c31, c32, c33, c34, c35, c36, c37, c38, c39, c40, c41, c42, c43, c44, c45, c46, c47, c48, c49, c50, c51, c52, c53, c54, c55, c56, c57, c58, c59, c60, c61, c62, c63, c64, c65, c66, c67, c68, c69, c70, c71, c72, c73, c74, c75, c76, .inr (7, [.int 0, .ref 78, .ref 79, .ref 80, .ref 81, .ref 82, .ref 83, .ref 84, .ref 85, .int 99, .ref 86, .ref 87, .ref 88, .ref 89, .ref 90, .ref 91, .ref 92, .ref 93, .ref 94, .int 0, .int 0, .int 0, .int 0, .int 0, .int 0, .int 0, .int 0, .ref 95, .ref 96, .ref 97, .ref 98, .ref 99, .null, .null, .null, .int 0, .int 0, .int 0, .long 0, .int 0, .null, .null, .null, .null, .null, .null, .null, .null, .null, .null, .null, .null, .null, .null, .null, .null, .null, .null, .null, .null, .null, .null, .null, .int 0, .int 0, .null, .null, .null, .null]), (xI 8), (xI 192), (xI 192), (xI 192), (xJ 192), (xJ 192), (xI 192), (xJ 1536), (xI 192), (xI 192), (xZ 192), (xI 192), (xI 192), (xI 12288), (xJ 12288), (xI 12288), (xI 120), (xI 24), (xI 24), (xI 24), (xJ 24), (xJ 24), (xI 24)]) rfl ?_
  refine wPut 209 i143_206 p143_85 rfl (by decide) rfl rfl rfl ?_
  refine tHeap (h' := [c0, c1, c2, c3, c4, c5, c6, c7, c8, c9, c10, c11, c12, c13, c14, c15, c16, c17, c18, c19, c20, c21, c22, c23, c24, c25, c26, c27, c28, c29, c30, c31, c32, c33, c34, c35, c36, c37, c38, c39, c40, c41, c42, c43, c44, c45, c46, c47, c48, c49, c50, c51, c52, c53, c54, c55, c56, c57, c58, c59, c60, c61, c62, c63, c64, c65, c66, c67, c68, c69, c70, c71, c72, c73, c74, c75, c76, .inr (7, [.int 0, .ref 78, .ref 79, .ref 80, .ref 81, .ref 82, .ref 83, .ref 84, .ref 85, .int 99, .ref 86, .ref 87, .ref 88, .ref 89, .ref 90, .ref 91, .ref 92, .ref 93, .ref 94, .int 0, .int 0, .int 0, .int 0, .int 0, .int 0, .int 0, .int 0, .ref 95, .ref 96, .ref 97, .ref 98, .ref 99, .ref 100, .null, .null, .int 0, .int 0, .int 0, .long 0, .int 0, .null, .null, .null, .null, .null, .null, .null, .null, .null, .null, .null, .null, .null, .null, .null, .null, .null, .null, .null, .null, .null, .null, .null, .int 0, .int 0, .null, .null, .null, .null]), (xI 8), (xI 192), (xI 192), (xI 192), (xJ 192), (xJ 192), (xI 192), (xJ 1536), (xI 192), (xI 192), (xZ 192), (xI 192), (xI 192), (xI 12288), (xJ 12288), (xI 12288), (xI 120), (xI 24), (xI 24), (xI 24), (xJ 24), (xJ 24), (xI 24)]) rfl ?_
  refine wLan 210 i143_209 rfl rfl ?_
  refine wKs 213 192 i143_210 (by decide) rfl ?_
  refine eNewA (n := 101) (N := 192) (c := (xJ 192)) 29 82436 28 82244 i143_213 (by decide) (by decide) rfl rfl rfl rfl ?_
  refine tHeap (h' := [c0, c1, c2, c3, c4, c5, c6, c7, c8, c9, c10, c11, c12, c13, c14, c15, c16, c17, c18, c19, c20, c21, c22, c23, c24, c25, c26, c27, c28, c29, c30, c31, c32, c33, c34, c35, c36, c37, c38, c39, c40, c41, c42, c43, c44, c45, c46, c47, c48, c49, c50, c51, c52, c53, c54, c55, c56, c57, c58, c59, c60, c61, c62, c63, c64, c65, c66, c67, c68, c69, c70, c71, c72, c73, c74, c75, c76, .inr (7, [.int 0, .ref 78, .ref 79, .ref 80, .ref 81, .ref 82, .ref 83, .ref 84, .ref 85, .int 99, .ref 86, .ref 87, .ref 88, .ref 89, .ref 90, .ref 91, .ref 92, .ref 93, .ref 94, .int 0, .int 0, .int 0, .int 0, .int 0, .int 0, .int 0, .int 0, .ref 95, .ref 96, .ref 97, .ref 98, .ref 99, .ref 100, .null, .null, .int 0, .int 0, .int 0, .long 0, .int 0, .null, .null, .null, .null, .null, .null, .null, .null, .null, .null, .null, .null, .null, .null, .null, .null, .null, .null, .null, .null, .null, .null, .null, .int 0, .int 0, .null, .null, .null, .null]), (xI 8), (xI 192), (xI 192), (xI 192), (xJ 192), (xJ 192), (xI 192), (xJ 1536), (xI 192), (xI 192), (xZ 192), (xI 192), (xI 192), (xI 12288), (xJ 12288), (xI 12288), (xI 120), (xI 24), (xI 24), (xI 24), (xJ 24), (xJ 24), (xI 24), (xJ 192)]) rfl ?_
  refine wPut 218 i143_215 p143_88 rfl (by decide) rfl rfl rfl ?_
  refine tHeap (h' := [c0, c1, c2, c3, c4, c5, c6, c7, c8, c9, c10, c11, c12, c13, c14, c15, c16, c17, c18, c19, c20, c21, c22, c23, c24, c25, c26, c27, c28, c29, c30, c31, c32, c33, c34, c35, c36, c37, c38, c39, c40, c41, c42, c43, c44, c45, c46, c47, c48, c49, c50, c51, c52, c53, c54, c55, c56, c57, c58, c59, c60, c61, c62, c63, c64, c65, c66, c67, c68, c69, c70, c71, c72, c73, c74, c75, c76, .inr (7, [.int 0, .ref 78, .ref 79, .ref 80, .ref 81, .ref 82, .ref 83, .ref 84, .ref 85, .int 99, .ref 86, .ref 87, .ref 88, .ref 89, .ref 90, .ref 91, .ref 92, .ref 93, .ref 94, .int 0, .int 0, .int 0, .int 0, .int 0, .int 0, .int 0, .int 0, .ref 95, .ref 96, .ref 97, .ref 98, .ref 99, .ref 100, .ref 101, .null, .int 0, .int 0, .int 0, .long 0, .int 0, .null, .null, .null, .null, .null, .null, .null, .null, .null, .null, .null, .null, .null, .null, .null, .null, .null, .null, .null, .null, .null, .null, .null, .int 0, .int 0, .null, .null, .null, .null]), (xI 8), (xI 192), (xI 192), (xI 192), (xJ 192), (xJ 192), (xI 192), (xJ 1536), (xI 192), (xI 192), (xZ 192), (xI 192), (xI 192), (xI 12288), (xJ 12288), (xI 12288), (xI 120), (xI 24), (xI 24), (xI 24), (xJ 24), (xJ 24), (xI 24), (xJ 192)]) rfl ?_
  refine wLan 219 i143_218 rfl rfl ?_
  refine wKs 222 4096 i143_219 (by decide) rfl ?_
  refine eNewA (n := 102) (N := 4096) (c := (xI 4096)) 28 82244 27 78148 i143_222 (by decide) (by decide) rfl rfl rfl rfl ?_
  refine tHeap (h' := [c0, c1, c2, c3, c4, c5, c6, c7, c8, c9, c10, c11, c12, c13, c14, c15, c16, c17, c18, c19, c20, c21, c22, c23, c24, c25, c26, c27, c28, c29, c30, c31, c32, c33, c34, c35, c36, c37, c38, c39, c40, c41, c42, c43, c44, c45, c46, c47, c48, c49, c50, c51, c52, c53, c54, c55, c56, c57, c58, c59, c60, c61, c62, c63, c64, c65, c66, c67, c68, c69, c70, c71, c72, c73, c74, c75, c76, .inr (7, [.int 0, .ref 78, .ref 79, .ref 80, .ref 81, .ref 82, .ref 83, .ref 84, .ref 85, .int 99, .ref 86, .ref 87, .ref 88, .ref 89, .ref 90, .ref 91, .ref 92, .ref 93, .ref 94, .int 0, .int 0, .int 0, .int 0, .int 0, .int 0, .int 0, .int 0, .ref 95, .ref 96, .ref 97, .ref 98, .ref 99, .ref 100, .ref 101, .null, .int 0, .int 0, .int 0, .long 0, .int 0, .null, .null, .null, .null, .null, .null, .null, .null, .null, .null, .null, .null, .null, .null, .null, .null, .null, .null, .null, .null, .null, .null, .null, .int 0, .int 0, .null, .null, .null, .null]), (xI 8), (xI 192), (xI 192), (xI 192), (xJ 192), (xJ 192), (xI 192), (xJ 1536), (xI 192), (xI 192), (xZ 192), (xI 192), (xI 192), (xI 12288), (xJ 12288), (xI 12288), (xI 120), (xI 24), (xI 24), (xI 24), (xJ 24), (xJ 24), (xI 24), (xJ 192), (xI 4096)]) rfl ?_
  refine wPut 227 i143_224 p143_91 rfl (by decide) rfl rfl rfl ?_
  refine tHeap (h' := [c0, c1, c2, c3, c4, c5, c6, c7, c8, c9, c10, c11, c12, c13, c14, c15, c16, c17, c18, c19, c20, c21, c22, c23, c24, c25, c26, c27, c28, c29, c30, c31, c32, c33, c34, c35, c36, c37, c38, c39, c40, c41, c42, c43, c44, c45, c46, c47, c48, c49, c50, c51, c52, c53, c54, c55, c56, c57, c58, c59, c60, c61, c62, c63, c64, c65, c66, c67, c68, c69, c70, c71, c72, c73, c74, c75, c76, .inr (7, [.int 0, .ref 78, .ref 79, .ref 80, .ref 81, .ref 82, .ref 83, .ref 84, .ref 85, .int 99, .ref 86, .ref 87, .ref 88, .ref 89, .ref 90, .ref 91, .ref 92, .ref 93, .ref 94, .int 0, .int 0, .int 0, .int 0, .int 0, .int 0, .int 0, .int 0, .ref 95, .ref 96, .ref 97, .ref 98, .ref 99, .ref 100, .ref 101, .ref 102, .int 0, .int 0, .int 0, .long 0, .int 0, .null, .null, .null, .null, .null, .null, .null, .null, .null, .null, .null, .null, .null, .null, .null, .null, .null, .null, .null, .null, .null, .null, .null, .int 0, .int 0, .null, .null, .null, .null]), (xI 8), (xI 192), (xI 192), (xI 192), (xJ 192), (xJ 192), (xI 192), (xJ 1536), (xI 192), (xI 192), (xZ 192), (xI 192), (xI 192), (xI 12288), (xJ 12288), (xI 12288), (xI 120), (xI 24), (xI 24), (xI 24), (xJ 24), (xJ 24), (xI 24), (xJ 192), (xI 4096)]) rfl ?_
  refine wLan 228 i143_227 rfl rfl ?_
  refine wKs 231 192 i143_228 (by decide) rfl ?_
  refine eNewA (n := 103) (N := 192) (c := (xI 192)) 27 78148 26 77956 i143_231 (by decide) (by decide) rfl rfl rfl rfl ?_
  refine tHeap (h' := [c0, c1, c2, c3, c4, c5, c6, c7, c8, c9, c10, c11, c12, c13, c14, c15, c16, c17, c18, c19, c20, c21, c22, c23, c24, c25, c26, c27, c28, c29, c30, c31, c32, c33, c34, c35, c36, c37, c38, c39, c40, c41, c42, c43, c44, c45, c46, c47, c48, c49, c50, c51, c52, c53, c54, c55, c56, c57, c58, c59, c60, c61, c62, c63, c64, c65, c66, c67, c68, c69, c70, c71, c72, c73, c74, c75, c76, .inr (7, [.int 0, .ref 78, .ref 79, .ref 80, .ref 81, .ref 82, .ref 83, .ref 84, .ref 85, .int 99, .ref 86, .ref 87, .ref 88, .ref 89, .ref 90, .ref 91, .ref 92, .ref 93, .ref 94, .int 0, .int 0, .int 0, .int 0, .int 0, .int 0, .int 0, .int 0, .ref 95, .ref 96, .ref 97, .ref 98, .ref 99, .ref 100, .ref 101, .ref 102, .int 0, .int 0, .int 0, .long 0, .int 0, .null, .null, .null, .null, .null, .null, .null, .null, .null, .null, .null, .null, .null, .null, .null, .null, .null, .null, .null, .null, .null, .null, .null, .int 0, .int 0, .null, .null, .null, .null]), (xI 8), (xI 192), (xI 192), (xI 192), (xJ 192), (xJ 192), (xI 192), (xJ 1536), (xI 192), (xI 192), (xZ 192), (xI 192), (xI 192), (xI 12288), (xJ 12288), (xI 12288), (xI 120), (xI 24), (xI 24), (xI 24), (xJ 24), (xJ 24), (xI 24), (xJ 192), (xI 4096), (xI 192)]) rfl ?_
  refine wPut 236 i143_233 p143_94 rfl (by decide) rfl rfl rfl ?_
  refine tHeap (h' := [c0, c1, c2, c3, c4, c5, c6, c7, c8, c9, c10, c11, c12, c13, c14, c15, c16, c17, c18, c19, c20, c21, c22, c23, c24, c25, c26, c27, c28, c29, c30, c31, c32, c33, c34, c35, c36, c37, c38, c39, c40, c41, c42, c43, c44, c45, c46, c47, c48, c49, c50, c51, c52, c53, c54, c55, c56, c57, c58, c59, c60, c61, c62, c63, c64, c65, c66, c67, c68, c69, c70, c71, c72, c73, c74, c75, c76, .inr (7, [.int 0, .ref 78, .ref 79, .ref 80, .ref 81, .ref 82, .ref 83, .ref 84, .ref 85, .int 99, .ref 86, .ref 87, .ref 88, .ref 89, .ref 90, .ref 91, .ref 92, .ref 93, .ref 94, .int 0, .int 0, .int 0, .int 0, .int 0, .int 0, .int 0, .int 0, .ref 95, .ref 96, .ref 97, .ref 98, .ref 99, .ref 100, .ref 101, .ref 102, .int 0, .int 0, .int 0, .long 0, .int 0, .ref 103, .null, .null, .null, .null, .null, .null, .null, .null, .null, .null, .null, .null, .null, .null, .null, .null, .null, .null, .null, .null, .null, .null, .int 0, .int 0, .null, .null, .null, .null]), (xI 8), (xI 192), (xI 192), (xI 192), (xJ 192), (xJ 192), (xI 192), (xJ 1536), (xI 192), (xI 192), (xZ 192), (xI 192), (xI 192), (xI 12288), (xJ 12288), (xI 12288), (xI 120), (xI 24), (xI 24), (xI 24), (xJ 24), (xJ 24), (xI 24), (xJ 192), (xI 4096), (xI 192)]) rfl ?_
  refine wLan 237 i143_236 rfl rfl ?_
  refine wKs 240 192 i143_237 (by decide) rfl ?_
  refine eNewA (n := 104) (N := 192) (c := (xI 192)) 26 77956 25 77764 i143_240 (by decide) (by decide) rfl rfl rfl rfl ?_
  refine tHeap (h' := [c0, c1, c2, c3, c4, c5, c6, c7, c8, c9, c10, c11, c12, c13, c14, c15, c16, c17, c18, c19, c20, c21, c22, c23, c24, c25, c26, c27, c28, c29, c30, c31, c32, c33, c34, c35, c36, c37, c38, c39, c40, c41, c42, c43, c44, c45, c46, c47, c48, c49, c50, c51, c52, c53, c54, c55, c56, c57, c58, c59, c60, c61, c62, c63, c64, c65, c66, c67, c68, c69, c70, c71, c72, c73, c74, c75, c76, .inr (7, [.int 0, .ref 78, .ref 79, .ref 80, .ref 81, .ref 82, .ref 83, .ref 84, .ref 85, .int 99, .ref 86, .ref 87, .ref 88, .ref 89, .ref 90, .ref 91, .ref 92, .ref 93, .ref 94, .int 0, .int 0, .int 0, .int 0, .int 0, .int 0, .int 0, .int 0, .ref 95, .ref 96, .ref 97, .ref 98, .ref 99, .ref 100, .ref 101, .ref 102, .int 0, .int 0, .int 0, .long 0, .int 0, .ref 103, .null, .null, .null, .null, .null, .null, .null, .null, .null, .null, .null, .null, .null, .null, .null, .null, .null, .null, .null, .null, .null, .null, .int 0, .int 0, .null, .null, .null, .null]), (xI 8), (xI 192), (xI 192), (xI 192), (xJ 192), (xJ 192), (xI 192), (xJ 1536), (xI 192), (xI 192), (xZ 192), (xI 192), (xI 192), (xI 12288), (xJ 12288), (xI 12288), (xI 120), (xI 24), (xI 24), (xI 24), (xJ 24), (xJ 24), (xI 24), (xJ 192), (xI 4096), (xI 192), (xI 192)]) rfl ?_
  refine wPut 245 i143_242 p143_97 rfl (by decide) rfl rfl rfl ?_
  refine tHeap (h' := [c0, c1, c2, c3, c4, c5, c6, c7, c8, c9, c10, c11, c12, c13, c14, c15, c16, c17, c18, c19, c20, c21, c22, c23, c24, c25, c26, c27, c28, c29, c30, c31, c32, c33, c34, c35, c36, c37, c38, c39, c40, c41, c42, c43, c44, c45, c46, c47, c48, c49, c50, c51, c52, c53, c54, c55, c56, c57, c58, c59, c60, c61, c62, c63, c64, c65, c66, c67, c68, c69, c70, c71, c72, c73, c74, c75, c76, .inr (7, [.int 0, .ref 78, .ref 79, .ref 80, .ref 81, .ref 82, .ref 83, .ref 84, .ref 85, .int 99, .ref 86, .ref 87, .ref 88, .ref 89, .ref 90, .ref 91, .ref 92, .ref 93, .ref 94, .int 0, .int 0, .int 0, .int 0, .int 0, .int 0, .int 0, .int 0, .ref 95, .ref 96, .ref 97, .ref 98, .ref 99, .ref 100, .ref 101, .ref 102, .int 0, .int 0, .int 0, .long 0, .int 0, .ref 103, .ref 104, .null, .null, .null, .null, .null, .null, .null, .null, .null, .null, .null, .null, .null, .null, .null, .null, .null, .null, .null, .null, .null, .int 0, .int 0, .null, .null, .null, .null]), (xI 8), (xI 192), (xI 192), (xI 192), (xJ 192), (xJ 192), (xI 192), (xJ 1536), (xI 192), (xI 192), (xZ 192), (xI 192), (xI 192), (xI 12288), (xJ 12288), (xI 12288), (xI 120), (xI 24), (xI 24), (xI 24), (xJ 24), (xJ 24), (xI 24), (xJ 192), (xI 4096), (xI 192), (xI 192)]) rfl ?_
  refine wLan 246 i143_245 rfl rfl ?_
  refine wKs 249 192 i143_246 (by decide) rfl ?_
  refine eNewA (n := 105) (N := 192) (c := (xI 192)) 25 77764 24 77572 i143_249 (by decide) (by decide) rfl rfl rfl rfl ?_
  refine tHeap (h' := [c0, c1, c2, c3, c4, c5, c6, c7, c8, c9, c10, c11, c12, c13, c14, c15, c16, c17, c18, c19, c20, c21, c22, c23, c24, c25, c26, c27, c28, c29, c30, c31, c32, c33, c34, c35, c36, c37, c38, c39, c40, c41, c42, c43, c44, c45, c46, c47, c48, c49, c50, c51, c52, c53, c54, c55, c56, c57, c58, c59, c60, c61, c62, c63, c64, c65, c66, c67, c68, c69, c70, c71, c72, c73, c74, c75, c76, .inr (7, [.int 0, .ref 78, .ref 79, .ref 80, .ref 81, .ref 82, .ref 83, .ref 84, .ref 85, .int 99, .ref 86, .ref 87, .ref 88, .ref 89, .ref 90, .ref 91, .ref 92, .ref 93, .ref 94, .int 0, .int 0, .int 0, .int 0, .int 0, .int 0, .int 0, .int 0, .ref 95, .ref 96, .ref 97, .ref 98, .ref 99, .ref 100, .ref 101, .ref 102, .int 0, .int 0, .int 0, .long 0, .int 0, .ref 103, .ref 104, .null, .null, .null, .null, .null, .null, .null, .null, .null, .null, .null, .null, .null, .null, .null, .null, .null, .null, .null, .null, .null, .int 0, .int 0, .null, .null, .null, .null]), (xI 8), (xI 192), (xI 192), (xI 192), (xJ 192), (xJ 192), (xI 192), (xJ 1536), (xI 192), (xI 192), (xZ 192), (xI 192), (xI 192), (xI 12288), (xJ 12288), (xI 12288), (xI 120), (xI 24), (xI 24), (xI 24), (xJ 24), (xJ 24), (xI 24), (xJ 192), (xI 4096), (xI 192), (xI 192), (xI 192)]) rfl ?_
  refine wPut 254 i143_251 p143_100 rfl (by decide) rfl rfl rfl ?_
  refine tHeap (h' := [c0, c1, c2, c3, c4, c5, c6, c7, c8, c9, c10, c11, c12, c13, c14, c15, c16, c17, c18, c19, c20, c21, c22, c23, c24, c25, c26, c27, c28, c29, c30, c31, c32, c33, c34, c35, c36, c37, c38, c39, c40, c41, c42, c43, c44, c45, c46, c47, c48, c49, c50, c51, c52, c53, c54, c55, c56, c57, c58, c59, c60, c61, c62, c63, c64, c65, c66, c67, c68, c69, c70, c71, c72, c73, c74, c75, c76, .inr (7, [.int 0, .ref 78, .ref 79, .ref 80, .ref 81, .ref 82, .ref 83, .ref 84, .ref 85, .int 99, .ref 86, .ref 87, .ref 88, .ref 89, .ref 90, .ref 91, .ref 92, .ref 93, .ref 94, .int 0, .int 0, .int 0, .int 0, .int 0, .int 0, .int 0, .int 0, .ref 95, .ref 96, .ref 97, .ref 98, .ref 99, .ref 100, .ref 101, .ref 102, .int 0, .int 0, .int 0, .long 0, .int 0, .ref 103, .ref 104, .ref 105, .null, .null, .null, .null, .null, .null, .null, .null, .null, .null, .null, .null, .null, .null, .null, .null, .null, .null, .null, .null, .int 0, .int 0, .null, .null, .null, .null]), (xI 8), (xI 192), (xI 192), (xI 192), (xJ 192), (xJ 192), (xI 192), (xJ 1536), (xI 192), (xI 192), (xZ 192), (xI 192), (xI 192), (xI 12288), (xJ 12288), (xI 12288), (xI 120), (xI 24), (xI 24), (xI 24), (xJ 24), (xJ 24), (xI 24), (xJ 192), (xI 4096), (xI 192), (xI 192), (xI 192)]) rfl ?_
  refine wLan 255 i143_254 rfl rfl ?_
  refine wKs 258 192 i143_255 (by decide) rfl ?_
  refine eNewA (n := 106) (N := 192) (c := (xI 192)) 24 77572 23 77380 i143_258 (by decide) (by decide) rfl rfl rfl rfl ?_
  refine tHeap (h' := [c0, c1, c2, c3, c4, c5, c6, c7, c8, c9, c10, c11, c12, c13, c14, c15, c16, c17, c18, c19, c20, c21, c22, c23, c24, c25, c26, c27, c28, c29, c30, c31, c32, c33, c34, c35, c36, c37, c38, c39, c40, c41, c42, c43, c44, c45, c46, c47, c48, c49, c50, c51, c52, c53, c54, c55, c56, c57, c58, c59, c60, c61, c62, c63, c64, c65, c66, c67, c68, c69, c70, c71, c72, c73, c74, c75, c76, .inr (7, [.int 0, .ref 78, .ref 79, .ref 80, .ref 81, .ref 82, .ref 83, .ref 84, .ref 85, .int 99, .ref 86, .ref 87, .ref 88, .ref 89, .ref 90, .ref 91, .ref 92, .ref 93, .ref 94, .int 0, .int 0, .int 0, .int 0, .int 0, .int 0, .int 0, .int 0, .ref 95, .ref 96, .ref 97, .ref 98, .ref 99, .ref 100, .ref 101, .ref 102, .int 0, .int 0, .int 0, .long 0, .int 0, .ref 103, .ref 104, .ref 105, .null, .null, .null, .null, .null, .null, .null, .null, .null, .null, .null, .null, .null, .null, .null, .null, .null, .null, .null, .null, .int 0, .int 0, .null, .null, .null, .null]), (xI 8), (xI 192), (xI 192), (xI 192), (xJ 192), (xJ 192), (xI 192), (xJ 1536), (xI 192), (xI 192), (xZ 192), (xI 192), (xI 192), (xI 12288), (xJ 12288), (xI 12288), (xI 120), (xI 24), (xI 24), (xI 24), (xJ 24), (xJ 24), (xI 24), (xJ 192), (xI 4096), (xI 192), (xI 192), (xI 192), (xI 192)]) rfl ?_
  refine wPut 263 i143_260 p143_103 rfl (by decide) rfl rfl rfl ?_
  refine tHeap (h' := [c0, c1, c2, c3, c4, c5, c6, c7, c8, c9, c10, c11, c12, c13, c14, c15, c16, c17, c18, c19, c20, c21, c22, c23, c24, c25, c26, c27, c28, c29, c30, c31, c32, c33, c34, c35, c36, c37, c38, c39, c40, c41, c42, c43, c44, c45, c46, c47, c48, c49, c50, c51, c52, c53, c54, c55, c56, c57, c58, c59, c60, c61, c62, c63, c64, c65, c66, c67, c68, c69, c70, c71, c72, c73, c74, c75, c76, .inr (7, [.int 0, .ref 78, .ref 79, .ref 80, .ref 81, .ref 82, .ref 83, .ref 84, .ref 85, .int 99, .ref 86, .ref 87, .ref 88, .ref 89, .ref 90, .ref 91, .ref 92, .ref 93, .ref 94, .int 0, .int 0, .int 0, .int 0, .int 0, .int 0, .int 0, .int 0, .ref 95, .ref 96, .ref 97, .ref 98, .ref 99, .ref 100, .ref 101, .ref 102, .int 0, .int 0, .int 0, .long 0, .int 0, .ref 103, .ref 104, .ref 105, .ref 106, .null, .null, .null, .null, .null, .null, .null, .null, .null, .null, .null, .null, .null, .null, .null, .null, .null, .null, .null, .int 0, .int 0, .null, .null, .null, .null]), (xI 8), (xI 192), (xI 192), (xI 192), (xJ 192), (xJ 192), (xI 192), (xJ 1536), (xI 192), (xI 192), (xZ 192), (xI 192), (xI 192), (xI 12288), (xJ 12288), (xI 12288), (xI 120), (xI 24), (xI 24), (xI 24), (xJ 24), (xJ 24), (xI 24), (xJ 192), (xI 4096), (xI 192), (xI 192), (xI 192), (xI 192)]) rfl ?_
  refine wLan 264 i143_263 rfl rfl ?_
  refine wKs 267 12288 i143_264 (by decide) rfl ?_
  refine eNewA (n := 107) (N := 12288) (c := (xI 12288)) 23 77380 22 65092 i143_267 (by decide) (by decide) rfl rfl rfl rfl ?_
  refine tHeap (h' := [c0, c1, c2, c3, c4, c5, c6, c7, c8, c9, c10, c11, c12, c13, c14, c15, c16, c17, c18, c19, c20, c21, c22, c23, c24, c25, c26, c27, c28, c29, c30, c31, c32, c33, c34, c35, c36, c37, c38, c39, c40, c41, c42, c43, c44, c45, c46, c47, c48, c49, c50, c51, c52, c53, c54, c55, c56, c57, c58, c59, c60, c61, c62, c63, c64, c65, c66, c67, c68, c69, c70, c71, c72, c73, c74, c75, c76, .inr (7, [.int 0, .ref 78, .ref 79, .ref 80, .ref 81, .ref 82, .ref 83, .ref 84, .ref 85, .int 99, .ref 86, .ref 87, .ref 88, .ref 89, .ref 90, .ref 91, .ref 92, .ref 93, .ref 94, .int 0, .int 0, .int 0, .int 0, .int 0, .int 0, .int 0, .int 0, .ref 95, .ref 96, .ref 97, .ref 98, .ref 99, .ref 100, .ref 101, .ref 102, .int 0, .int 0, .int 0, .long 0, .int 0, .ref 103, .ref 104, .ref 105, .ref 106, .null, .null, .null, .null, .null, .null, .null, .null, .null, .null, .null, .null, .null, .null, .null, .null, .null, .null, .null, .int 0, .int 0, .null, .null, .null, .null]), (xI 8), (xI 192), (xI 192), (xI 192), (xJ 192), (xJ 192), (xI 192), (xJ 1536), (xI 192), (xI 192), (xZ 192), (xI 192), (xI 192), (xI 12288), (xJ 12288), (xI 12288), (xI 120), (xI 24), (xI 24), (xI 24), (xJ 24), (xJ 24), (xI 24), (xJ 192), (xI 4096), (xI 192), (xI 192), (xI 192), (xI 192), (xI 12288)]) rfl ?_
  refine wPut 272 i143_269 p143_106 rfl (by decide) rfl rfl rfl ?_
  refine tHeap (h' := [c0, c1, c2, c3, c4, c5, c6, c7, c8, c9, c10, c11, c12, c13, c14, c15, c16, c17, c18, c19, c20, c21, c22, c23, c24, c25, c26, c27, c28, c29, c30, c31, c32, c33, c34, c35, c36, c37, c38, c39, c40, c41, c42, c43, c44, c45, c46, c47, c48, c49, c50, c51, c52, c53, c54, c55, c56, c57, c58, c59, c60, c61, c62, c63, c64, c65, c66, c67, c68, c69, c70, c71, c72, c73, c74, c75, c76, .inr (7, [.int 0, .ref 78, .ref 79, .ref 80, .ref 81, .ref 82, .ref 83, .ref 84, .ref 85, .int 99, .ref 86, .ref 87, .ref 88, .ref 89, .ref 90, .ref 91, .ref 92, .ref 93, .ref 94, .int 0, .int 0, .int 0, .int 0, .int 0, .int 0, .int 0, .int 0, .ref 95, .ref 96, .ref 97, .ref 98, .ref 99, .ref 100, .ref 101, .ref 102, .int 0, .int 0, .int 0, .long 0, .int 0, .ref 103, .ref 104, .ref 105, .ref 106, .ref 107, .null, .null, .null, .null, .null, .null, .null, .null, .null, .null, .null, .null, .null, .null, .null, .null, .null, .null, .int 0, .int 0, .null, .null, .null, .null]), (xI 8), (xI 192), (xI 192), (xI 192), (xJ 192), (xJ 192), (xI 192), (xJ 1536), (xI 192), (xI 192), (xZ 192), (xI 192), (xI 192), (xI 12288), (xJ 12288), (xI 12288), (xI 120), (xI 24), (xI 24), (xI 24), (xJ 24), (xJ 24), (xI 24), (xJ 192), (xI 4096), (xI 192), (xI 192), (xI 192), (xI 192), (xI 12288)]) rfl ?_
  refine wLan 273 i143_272 rfl rfl ?_
  refine wKs 276 12288 i143_273 (by decide) rfl ?_
  refine eNewA (n := 108) (N := 12288) (c := (xJ 12288)) 22 65092 21 52804 i143_276 (by decide) (by decide) rfl rfl rfl rfl ?_
  refine tHeap (h' := [c0, c1, c2, c3, c4, c5, c6, c7, c8, c9, c10, c11, c12, c13, c14, c15, c16, c17, c18, c19, c20, c21, c22, c23, c24, c25, c26, c27, c28, c29, c30, c31, c32, c33, c34, c35, c36, c37, c38, c39, c40, c41, c42, c43, c44, c45, c46, c47, c48, c49, c50, c51, c52, c53, c54, c55, c56, c57, c58, c59, c60, c61, c62, c63, c64, c65, c66, c67, c68, c69, c70, c71, c72, c73, c74, c75, c76, .inr (7, [.int 0, .ref 78, .ref 79, .ref 80, .ref 81, .ref 82, .ref 83, .ref 84, .ref 85, .int 99, .ref 86, .ref 87, .ref 88, .ref 89, .ref 90, .ref 91, .ref 92, .ref 93, .ref 94, .int 0, .int 0, .int 0, .int 0, .int 0, .int 0, .int 0, .int 0, .ref 95, .ref 96, .ref 97, .ref 98, .ref 99, .ref 100, .ref 101, .ref 102, .int 0, .int 0, .int 0, .long 0, .int 0, .ref 103, .ref 104, .ref 105, .ref 106, .ref 107, .null, .null, .null, .null, .null, .null, .null, .null, .null, .null, .null, .null, .null, .null, .null, .null, .null, .null, .int 0, .int 0, .null, .null, .null, .null]), (xI 8), (xI 192), (xI 192), (xI 192), (xJ 192), (xJ 192), (xI 192), (xJ 1536), (xI 192), (xI 192), (xZ 192), (xI 192), (xI 192), (xI 12288), (xJ 12288), (xI 12288), (xI 120), (xI 24), (xI 24), (xI 24), (xJ 24), (xJ 24), (xI 24), (xJ 192), (xI 4096), (xI 192), (xI 192), (xI 192), (xI 192), (xI 12288), (xJ 12288)]) rfl ?_
  refine wPut 281 i143_278 p143_109 rfl (by decide) rfl rfl rfl ?_
  refine tHeap (h' := [c0, c1, c2, c3, c4, c5, c6, c7, c8, c9, c10, c11, c12, c13, c14, c15, c16, c17, c18, c19, c20, c21, c22, c23, c24, c25, c26, c27, c28, c29, c30, c31, c32, c33, c34, c35, c36, c37, c38, c39, c40, c41, c42, c43, c44, c45, c46, c47, c48, c49, c50, c51, c52, c53, c54, c55, c56, c57, c58, c59, c60, c61, c62, c63, c64, c65, c66, c67, c68, c69, c70, c71, c72, c73, c74, c75, c76, .inr (7, [.int 0, .ref 78, .ref 79, .ref 80, .ref 81, .ref 82, .ref 83, .ref 84, .ref 85, .int 99, .ref 86, .ref 87, .ref 88, .ref 89, .ref 90, .ref 91, .ref 92, .ref 93, .ref 94, .int 0, .int 0, .int 0, .int 0, .int 0, .int 0, .int 0, .int 0, .ref 95, .ref 96, .ref 97, .ref 98, .ref 99, .ref 100, .ref 101, .ref 102, .int 0, .int 0, .int 0, .long 0, .int 0, .ref 103, .ref 104, .ref 105, .ref 106, .ref 107, .ref 108, .null, .null, .null, .null, .null, .null, .null, .null, .null, .null, .null, .null, .null, .null, .null, .null, .null, .int 0, .int 0, .null, .null, .null, .null]), (xI 8), (xI 192), (xI 192), (xI 192), (xJ 192), (xJ 192), (xI 192), (xJ 1536), (xI 192), (xI 192), (xZ 192), (xI 192), (xI 192), (xI 12288), (xJ 12288), (xI 12288), (xI 120), (xI 24), (xI 24), (xI 24), (xJ 24), (xJ 24), (xI 24), (xJ 192), (xI 4096), (xI 192), (xI 192), (xI 192), (xI 192), (xI 12288), (xJ 12288)]) rfl ?_
  refine wLan 282 i143_281 rfl rfl ?_
  refine wKs 285 12288 i143_282 (by decide) rfl ?_
  refine eNewA (n := 109) (N := 12288) (c := (xI 12288)) 21 52804 20 40516 i143_285 (by decide) (by decide) rfl rfl rfl rfl ?_
  refine tHeap (h' := [c0, c1, c2, c3, c4, c5, c6, c7, c8, c9, c10, c11, c12, c13, c14, c15, c16, c17, c18, c19, c20, c21, c22, c23, c24, c25, c26, c27, c28, c29, c30, c31, c32, c33, c34, c35, c36, c37, c38, c39, c40, c41, c42, c43, c44, c45, c46, c47, c48, c49, c50, c51, c52, c53, c54, c55, c56, c57, c58, c59, c60, c61, c62, c63, c64, c65, c66, c67, c68, c69, c70, c71, c72, c73, c74, c75, c76, .inr (7, [.int 0, .ref 78, .ref 79, .ref 80, .ref 81, .ref 82, .ref 83, .ref 84, .ref 85, .int 99, .ref 86, .ref 87, .ref 88, .ref 89, .ref 90, .ref 91, .ref 92, .ref 93, .ref 94, .int 0, .int 0, .int 0, .int 0, .int 0, .int 0, .int 0, .int 0, .ref 95, .ref 96, .ref 97, .ref 98, .ref 99, .ref 100, .ref 101, .ref 102, .int 0, .int 0, .int 0, .long 0, .int 0, .ref 103, .ref 104, .ref 105, .ref 106, .ref 107, .ref 108, .null, .null, .null, .null, .null, .null, .null, .null, .null, .null, .null, .null, .null, .null, .null, .null, .null, .int 0, .int 0, .null, .null, .null, .null]), (xI 8), (xI 192), (xI 192), (xI 192), (xJ 192), (xJ 192), (xI 192), (xJ 1536), (xI 192), (xI 192), (xZ 192), (xI 192), (xI 192), (xI 12288), (xJ 12288), (xI 12288), (xI 120), (xI 24), (xI 24), (xI 24), (xJ 24), (xJ 24), (xI 24), (xJ 192), (xI 4096), (xI 192), (xI 192), (xI 192), (xI 192), (xI 12288), (xJ 12288), (xI 12288)]) rfl ?_
  refine wPut 290 i143_287 p143_112 rfl (by decide) rfl rfl rfl ?_
  refine tHeap (h' := [c0, c1, c2, c3, c4, c5, c6, c7, c8, c9, c10, c11, c12, c13, c14, c15, c16, c17, c18, c19, c20, c21, c22, c23, c24, c25, c26, c27, c28, c29, c30, c31, c32, c33, c34, c35, c36, c37, c38, c39, c40, c41, c42, c43, c44, c45, c46, c47, c48, c49, c50, c51, c52, c53, c54, c55, c56, c57, c58, c59, c60, c61, c62, c63, c64, c65, c66, c67, c68, c69, c70, c71, c72, c73, c74, c75, c76, .inr (7, [.int 0, .ref 78, .ref 79, .ref 80, .ref 81, .ref 82, .ref 83, .ref 84, .ref 85, .int 99, .ref 86, .ref 87, .ref 88, .ref 89, .ref 90, .ref 91, .ref 92, .ref 93, .ref 94, .int 0, .int 0, .int 0, .int 0, .int 0, .int 0, .int 0, .int 0, .ref 95, .ref 96, .ref 97, .ref 98, .ref 99, .ref 100, .ref 101, .ref 102, .int 0, .int 0, .int 0, .long 0, .int 0, .ref 103, .ref 104, .ref 105, .ref 106, .ref 107, .ref 108, .ref 109, .null, .null, .null, .null, .null, .null, .null, .null, .null, .null, .null, .null, .null, .null, .null, .null, .int 0, .int 0, .null, .null, .null, .null]), (xI 8), (xI 192), (xI 192), (xI 192), (xJ 192), (xJ 192), (xI 192), (xJ 1536), (xI 192), (xI 192), (xZ 192), (xI 192), (xI 192), (xI 12288), (xJ 12288), (xI 12288), (xI 120), (xI 24), (xI 24), (xI 24), (xJ 24), (xJ 24), (xI 24), (xJ 192), (xI 4096), (xI 192), (xI 192), (xI 192), (xI 192), (xI 12288), (xJ 12288), (xI 12288)]) rfl ?_
  refine wLan 291 i143_290 rfl rfl ?_
  refine wKb 293 16 i143_291 (by decide) rfl ?_
  refine eNewA (n := 110) (N := 16) (c := (xJ 16)) 20 40516 19 40500 i143_293 (by decide) (by decide) rfl rfl rfl rfl ?_
  refine tHeap (h' := [c0, c1, c2, c3, c4, c5, c6, c7, c8, c9, c10, c11, c12, c13, c14, c15, c16, c17, c18, c19, c20, c21, c22, c23, c24, c25, c26, c27, c28, c29, c30, c31, c32, c33, c34, c35, c36, c37, c38, c39, c40, c41, c42, c43, c44, c45, c46, c47, c48, c49, c50, c51, c52, c53, c54, c55, c56, c57, c58, c59, c60, c61, c62, c63, c64, c65, c66, c67, c68, c69, c70, c71, c72, c73, c74, c75, c76, .inr (7, [.int 0, .ref 78, .ref 79, .ref 80, .ref 81, .ref 82, .ref 83, .ref 84, .ref 85, .int 99, .ref 86, .ref 87, .ref 88, .ref 89, .ref 90, .ref 91, .ref 92, .ref 93, .ref 94, .int 0, .int 0, .int 0, .int 0, .int 0, .int 0, .int 0, .int 0, .ref 95, .ref 96, .ref 97, .ref 98, .ref 99, .ref 100, .ref 101, .ref 102, .int 0, .int 0, .int 0, .long 0, .int 0, .ref 103, .ref 104, .ref 105, .ref 106, .ref 107, .ref 108, .ref 109, .null, .null, .null, .null, .null, .null, .null, .null, .null, .null, .null, .null, .null, .null, .null, .null, .int 0, .int 0, .null, .null, .null, .null]), (xI 8), (xI 192), (xI 192), (xI 192), (xJ 192), (xJ 192), (xI 192), (xJ 1536), (xI 192), (xI 192), (xZ 192), (xI 192), (xI 192), (xI 12288), (xJ 12288), (xI 12288), (xI 120), (xI 24), (xI 24), (xI 24), (xJ 24), (xJ 24), (xI 24), (xJ 192), (xI 4096), (xI 192), (xI 192), (xI 192), (xI 192), (xI 12288), (xJ 12288), (xI 12288), (xJ 16)]) rfl ?_
  refine wPut 298 i143_295 p143_115 rfl (by decide) rfl rfl rfl ?_
  refine tHeap (h' := [c0, c1, c2, c3, c4, c5, c6, c7, c8, c9, c10, c11, c12, c13, c14, c15, c16, c17, c18, c19, c20, c21, c22, c23, c24, c25, c26, c27, c28, c29, c30, c31, c32, c33, c34, c35, c36, c37, c38, c39, c40, c41, c42, c43, c44, c45, c46, c47, c48, c49, c50, c51, c52, c53, c54, c55, c56, c57, c58, c59, c60, c61, c62, c63, c64, c65, c66, c67, c68, c69, c70, c71, c72, c73, c74, c75, c76, .inr (7, [.int 0, .ref 78, .ref 79, .ref 80, .ref 81, .ref 82, .ref 83, .ref 84, .ref 85, .int 99, .ref 86, .ref 87, .ref 88, .ref 89, .ref 90, .ref 91, .ref 92, .ref 93, .ref 94, .int 0, .int 0, .int 0, .int 0, .int 0, .int 0, .int 0, .int 0, .ref 95, .ref 96, .ref 97, .ref 98, .ref 99, .ref 100, .ref 101, .ref 102, .int 0, .int 0, .int 0, .long 0, .int 0, .ref 103, .ref 104, .ref 105, .ref 106, .ref 107, .ref 108, .ref 109, .ref 110, .null, .null, .null, .null, .null, .null, .null, .null, .null, .null, .null, .null, .null, .null, .null, .int 0, .int 0, .null, .null, .null, .null]), (xI 8), (xI 192), (xI 192), (xI 192), (xJ 192), (xJ 192), (xI 192), (xJ 1536), (xI 192), (xI 192), (xZ 192), (xI 192), (xI 192), (xI 12288), (xJ 12288), (xI 12288), (xI 120), (xI 24), (xI 24), (xI 24), (xJ 24), (xJ 24), (xI 24), (xJ 192), (xI 4096), (xI 192), (xI 192), (xI 192), (xI 192), (xI 12288), (xJ 12288), (xI 12288), (xJ 16)]) rfl ?_
  refine wLan 299 i143_298 rfl rfl ?_
  refine wKb 301 8 i143_299 (by decide) rfl ?_
  refine eNewA (n := 111) (N := 8) (c := (xI 8)) 19 40500 18 40492 i143_301 (by decide) (by decide) rfl rfl rfl rfl ?_
  refine tHeap (h' := [c0, c1, c2, c3, c4, c5, c6, c7, c8, c9, c10, c11, c12, c13, c14, c15, c16, c17, c18, c19, c20, c21, c22, c23, c24, c25, c26, c27, c28, c29, c30, c31, c32, c33, c34, c35, c36, c37, c38, c39, c40, c41, c42, c43, c44, c45, c46, c47, c48, c49, c50, c51, c52, c53, c54, c55, c56, c57, c58, c59, c60, c61, c62, c63, c64, c65, c66, c67, c68, c69, c70, c71, c72, c73, c74, c75, c76, .inr (7, [.int 0, .ref 78, .ref 79, .ref 80, .ref 81, .ref 82, .ref 83, .ref 84, .ref 85, .int 99, .ref 86, .ref 87, .ref 88, .ref 89, .ref 90, .ref 91, .ref 92, .ref 93, .ref 94, .int 0, .int 0, .int 0, .int 0, .int 0, .int 0, .int 0, .int 0, .ref 95, .ref 96, .ref 97, .ref 98, .ref 99, .ref 100, .ref 101, .ref 102, .int 0, .int 0, .int 0, .long 0, .int 0, .ref 103, .ref 104, .ref 105, .ref 106, .ref 107, .ref 108, .ref 109, .ref 110, .null, .null, .null, .null, .null, .null, .null, .null, .null, .null, .null, .null, .null, .null, .null, .int 0, .int 0, .null, .null, .null, .null]), (xI 8), (xI 192), (xI 192), (xI 192), (xJ 192), (xJ 192), (xI 192), (xJ 1536), (xI 192), (xI 192), (xZ 192), (xI 192), (xI 192), (xI 12288), (xJ 12288), (xI 12288), (xI 120), (xI 24), (xI 24), (xI 24), (xJ 24), (xJ 24), (xI 24), (xJ 192), (xI 4096), (xI 192), (xI 192), (xI 192), (xI 192), (xI 12288), (xJ 12288), (xI 12288), (xJ 16), (xI 8)]) rfl ?_
  refine wPut 306 i143_303 p143_118 rfl (by decide) rfl rfl rfl ?_
  refine tHeap (h' := [c0, c1, c2, c3, c4, c5, c6, c7, c8, c9, c10, c11, c12, c13, c14, c15, c16, c17, c18, c19, c20, c21, c22, c23, c24, c25, c26, c27, c28, c29, c30, c31, c32, c33, c34, c35, c36, c37, c38, c39, c40, c41, c42, c43, c44, c45, c46, c47, c48, c49, c50, c51, c52, c53, c54, c55, c56, c57, c58, c59, c60, c61, c62, c63, c64, c65, c66, c67, c68, c69, c70, c71, c72, c73, c74, c75, c76, .inr (7, [.int 0, .ref 78, .ref 79, .ref 80, .ref 81, .ref 82, .ref 83, .ref 84, .ref 85, .int 99, .ref 86, .ref 87, .ref 88, .ref 89, .ref 90, .ref 91, .ref 92, .ref 93, .ref 94, .int 0, .int 0, .int 0, .int 0, .int 0, .int 0, .int 0, .int 0, .ref 95, .ref 96, .ref 97, .ref 98, .ref 99, .ref 100, .ref 101, .ref 102, .int 0, .int 0, .int 0, .long 0, .int 0, .ref 103, .ref 104, .ref 105, .ref 106, .ref 107, .ref 108, .ref 109, .ref 110, .ref 111, .null, .null, .null, .null, .null, .null, .null, .null, .null, .null, .null, .null, .null, .null, .int 0, .int 0, .null, .null, .null, .null]), (xI 8), (xI 192), (xI 192), (xI 192), (xJ 192), (xJ 192), (xI 192), (xJ 1536), (xI 192), (xI 192), (xZ 192), (xI 192), (xI 192), (xI 12288), (xJ 12288), (xI 12288), (xI 120), (xI 24), (xI 24), (xI 24), (xJ 24), (xJ 24), (xI 24), (xJ 192), (xI 4096), (xI 192), (xI 192), (xI 192), (xI 192), (xI 12288), (xJ 12288), (xI 12288), (xJ 16), (xI 8)]) rfl ?_
  refine wLan 307 i143_306 rfl rfl ?_
  refine wKs 310 192 i143_307 (by decide) rfl ?_
  refine eNewA (n := 112) (N := 192) (c := (xI 192)) 18 40492 17 40300 i143_310 (by decide) (by decide) rfl rfl rfl rfl ?_
  refine tHeap (h' := [c0, c1, c2, c3, c4, c5, c6, c7, c8, c9, c10, c11, c12, c13, c14, c15, c16, c17, c18, c19, c20, c21, c22, c23, c24, c25, c26, c27, c28, c29, c30, c31, c32, c33, c34, c35, c36, c37, c38, c39, c40, c41, c42, c43, c44, c45, c46, c47, c48, c49, c50, c51, c52, c53, c54, c55, c56, c57, c58, c59, c60, c61, c62, c63, c64, c65, c66, c67, c68, c69, c70, c71, c72, c73, c74, c75, c76, .inr (7, [.int 0, .ref 78, .ref 79, .ref 80, .ref 81, .ref 82, .ref 83, .ref 84, .ref 85, .int 99, .ref 86, .ref 87, .ref 88, .ref 89, .ref 90, .ref 91, .ref 92, .ref 93, .ref 94, .int 0, .int 0, .int 0, .int 0, .int 0, .int 0, .int 0, .int 0, .ref 95, .ref 96, .ref 97, .ref 98, .ref 99, .ref 100, .ref 101, .ref 102, .int 0, .int 0, .int 0, .long 0, .int 0, .ref 103, .ref 104, .ref 105, .ref 106, .ref 107, .ref 108, .ref 109, .ref 110, .ref 111, .null, .null, .null, .null, .null, .null, .null, .null, .null, .null, .null, .null, .null, .null, .int 0, .int 0, .null, .null, .null, .null]), (xI 8), (xI 192), (xI 192), (xI 192), (xJ 192), (xJ 192), (xI 192), (xJ 1536), (xI 192), (xI 192), (xZ 192), (xI 192), (xI 192), (xI 12288), (xJ 12288), (xI 12288), (xI 120), (xI 24), (xI 24), (xI 24), (xJ 24), (xJ 24), (xI 24), (xJ 192), (xI 4096), (xI 192), (xI 192), (xI 192), (xI 192), (xI 12288), (xJ 12288), (xI 12288), (xJ 16), (xI 8), (xI 192)]) rfl ?_
  refine wPut 315 i143_312 p143_121 rfl (by decide) rfl rfl rfl ?_
  refine tHeap (h' := [c0, c1, c2, c3, c4, c5, c6, c7, c8, c9, c10, c11, c12, c13, c14, c15, c16, c17, c18, c19, c20, c21, c22, c23, c24, c25, c26, c27, c28, c29, c30, c31, c32, c33, c34, c35, c36, c37, c38, c39, c40, c41, c42, c43, c44, c45, c46, c47, c48, c49, c50, c51, c52, c53, c54, c55, c56, c57, c58, c59, c60, c61, c62, c63, c64, c65, c66, c67, c68, c69, c70, c71, c72, c73, c74, c75, c76, .inr (7, [.int 0, .ref 78, .ref 79, .ref 80, .ref 81, .ref 82, .ref 83, .ref 84, .ref 85, .int 99, .ref 86, .ref 87, .ref 88, .ref 89, .ref 90, .ref 91, .ref 92, .ref 93, .ref 94, .int 0, .int 0, .int 0, .int 0, .int 0, .int 0, .int 0, .int 0, .ref 95, .ref 96, .ref 97, .ref 98, .ref 99, .ref 100, .ref 101, .ref 102, .int 0, .int 0, .int 0, .long 0, .int 0, .ref 103, .ref 104, .ref 105, .ref 106, .ref 107, .ref 108, .ref 109, .ref 110, .ref 111, .ref 112, .null, .null, .null, .null, .null, .null, .null, .null, .null, .null, .null, .null, .null, .int 0, .int 0, .null, .null, .null, .null]), (xI 8), (xI 192), (xI 192), (xI 192), (xJ 192), (xJ 192), (xI 192), (xJ 1536), (xI 192), (xI 192), (xZ 192), (xI 192), (xI 192), (xI 12288), (xJ 12288), (xI 12288), (xI 120), (xI 24), (xI 24), (xI 24), (xJ 24), (xJ 24), (xI 24), (xJ 192), (xI 4096), (xI 192), (xI 192), (xI 192), (xI 192), (xI 12288), (xJ 12288), (xI 12288), (xJ 16), (xI 8), (xI 192)]) rfl ?_
  refine wLan 316 i143_315 rfl rfl ?_
  refine wKs 319 192 i143_316 (by decide) rfl ?_
  refine eNewA (n := 113) (N := 192) (c := (xI 192)) 17 40300 16 40108 i143_319 (by decide) (by decide) rfl rfl rfl rfl ?_
  refine tHeap (h' := [c0, c1, c2, c3, c4, c5, c6, c7, c8, c9, c10, c11, c12, c13, c14, c15, c16, c17, c18, c19, c20, c21, c22, c23, c24, c25, c26, c27, c28, c29, c30, c31, c32, c33, c34, c35, c36, c37, c38, c39, c40, c41, c42, c43, c44, c45, c46, c47, c48, c49, c50, c51, c52, c53, c54, c55, c56, c57, c58, c59, c60, c61, c62, c63, c64, c65, c66, c67, c68, c69, c70, c71, c72, c73, c74, c75, c76, .inr (7, [.int 0, .ref 78, .ref 79, .ref 80, .ref 81, .ref 82, .ref 83, .ref 84, .ref 85, .int 99, .ref 86, .ref 87, .ref 88, .ref 89, .ref 90, .ref 91, .ref 92, .ref 93, .ref 94, .int 0, .int 0, .int 0, .int 0, .int 0, .int 0, .int 0, .int 0, .ref 95, .ref 96, .ref 97, .ref 98, .ref 99, .ref 100, .ref 101, .ref 102, .int 0, .int 0, .int 0, .long 0, .int 0, .ref 103, .ref 104, .ref 105, .ref 106, .ref 107, .ref 108, .ref 109, .ref 110, .ref 111, .ref 112, .null, .null, .null, .null, .null, .null, .null, .null, .null, .null, .null, .null, .null, .int 0, .int 0, .null, .null, .null, .null]), (xI 8), (xI 192), (xI 192), (xI 192), (xJ 192), (xJ 192), (xI 192), (xJ 1536), (xI 192), (xI 192), (xZ 192), (xI 192), (xI 192), (xI 12288), (xJ 12288), (xI 12288), (xI 120), (xI 24), (xI 24), (xI 24), (xJ 24), (xJ 24), (xI 24), (xJ 192), (xI 4096), (xI 192), (xI 192), (xI 192), (xI 192), (xI 12288), (xJ 12288), (xI 12288), (xJ 16), (xI 8), (xI 192), (xI 192)]) rfl ?_
  refine wPut 324 i143_321 p143_124 rfl (by decide) rfl rfl rfl ?_
  refine tHeap (h' := [c0, c1, c2, c3, c4, c5, c6, c7, c8, c9, c10, c11, c12, c13, c14, c15, c16, c17, c18, c19, c20, c21, c22, c23, c24, c25, c26, c27, c28, c29, c30, c31, c32, c33, c34, c35, c36, c37, c38, c39, c40, c41, c42, c43, c44, c45, c46, c47, c48, c49, c50, c51, c52, c53, c54, c55, c56, c57, c58, c59, c60, c61, c62, c63, c64, c65, c66, c67, c68, c69, c70, c71, c72, c73, c74, c75, c76, .inr (7, [.int 0, .ref 78, .ref 79, .ref 80, .ref 81, .ref 82, .ref 83, .ref 84, .ref 85, .int 99, .ref 86, .ref 87, .ref 88, .ref 89, .ref 90, .ref 91, .ref 92, .ref 93, .ref 94, .int 0, .int 0, .int 0, .int 0, .int 0, .int 0, .int 0, .int 0, .ref 95, .ref 96, .ref 97, .ref 98, .ref 99, .ref 100, .ref 101, .ref 102, .int 0, .int 0, .int 0, .long 0, .int 0, .ref 103, .ref 104, .ref 105, .ref 106, .ref 107, .ref 108, .ref 109, .ref 110, .ref 111, .ref 112, .ref 113, .null, .null, .null, .null, .null, .null, .null, .null, .null, .null, .null, .null, .int 0, .int 0, .null, .null, .null, .null]), (xI 8), (xI 192), (xI 192), (xI 192), (xJ 192), (xJ 192), (xI 192), (xJ 1536), (xI 192), (xI 192), (xZ 192), (xI 192), (xI 192), (xI 12288), (xJ 12288), (xI 12288), (xI 120), (xI 24), (xI 24), (xI 24), (xJ 24), (xJ 24), (xI 24), (xJ 192), (xI 4096), (xI 192), (xI 192), (xI 192), (xI 192), (xI 12288), (xJ 12288), (xI 12288), (xJ 16), (xI 8), (xI 192), (xI 192)]) rfl ?_
  refine wLan 325 i143_324 rfl rfl ?_
  refine wKs 328 192 i143_325 (by decide) rfl ?_
  refine eNewA (n := 114) (N := 192) (c := (xI 192)) 16 40108 15 39916 i143_328 (by decide) (by decide) rfl rfl rfl rfl ?_
  refine tHeap (h' := [c0, c1, c2, c3, c4, c5, c6, c7, c8, c9, c10, c11, c12, c13, c14, c15, c16, c17, c18, c19, c20, c21, c22, c23, c24, c25, c26, c27, c28, c29, c30, c31, c32, c33, c34, c35, c36, c37, c38, c39, c40, c41, c42, c43, c44, c45, c46, c47, c48, c49, c50, c51, c52, c53, c54, c55, c56, c57, c58, c59, c60, c61, c62, c63, c64, c65, c66, c67, c68, c69, c70, c71, c72, c73, c74, c75, c76, .inr (7, [.int 0, .ref 78, .ref 79, .ref 80, .ref 81, .ref 82, .ref 83, .ref 84, .ref 85, .int 99, .ref 86, .ref 87, .ref 88, .ref 89, .ref 90, .ref 91, .ref 92, .ref 93, .ref 94, .int 0, .int 0, .int 0, .int 0, .int 0, .int 0, .int 0, .int 0, .ref 95, .ref 96, .ref 97, .ref 98, .ref 99, .ref 100, .ref 101, .ref 102, .int 0, .int 0, .int 0, .long 0, .int 0, .ref 103, .ref 104, .ref 105, .ref 106, .ref 107, .ref 108, .ref 109, .ref 110, .ref 111, .ref 112, .ref 113, .null, .null, .null, .null, .null, .null, .null, .null, .null, .null, .null, .null, .int 0, .int 0, .null, .null, .null, .null]), (xI 8), (xI 192), (xI 192), (xI 192), (xJ 192), (xJ 192), (xI 192), (xJ 1536), (xI 192), (xI 192), (xZ 192), (xI 192), (xI 192), (xI 12288), (xJ 12288), (xI 12288), (xI 120), (xI 24), (xI 24), (xI 24), (xJ 24), (xJ 24), (xI 24), (xJ 192), (xI 4096), (xI 192), (xI 192), (xI 192), (xI 192), (xI 12288), (xJ 12288), (xI 12288), (xJ 16), (xI 8), (xI 192), (xI 192), (xI 192)]) rfl ?_
  refine wPut 333 i143_330 p143_127 rfl (by decide) rfl rfl rfl ?_
  refine tHeap (h' := [c0, c1, c2, c3, c4, c5, c6, c7, c8, c9, c10, c11, c12, c13, c14, c15, c16, c17, c18, c19, c20, c21, c22, c23, c24, c25, c26, c27, c28, c29, c30, c31, c32, c33, c34, c35, c36, c37, c38, c39, c40, c41, c42, c43, c44, c45, c46, c47, c48, c49, c50, c51, c52, c53, c54, c55, c56, c57, c58, c59, c60, c61, c62, c63, c64, c65, c66, c67, c68, c69, c70, c71, c72, c73, c74, c75, c76, .inr (7, [.int 0, .ref 78, .ref 79, .ref 80, .ref 81, .ref 82, .ref 83, .ref 84, .ref 85, .int 99, .ref 86, .ref 87, .ref 88, .ref 89, .ref 90, .ref 91, .ref 92, .ref 93, .ref 94, .int 0, .int 0, .int 0, .int 0, .int 0, .int 0, .int 0, .int 0, .ref 95, .ref 96, .ref 97, .ref 98, .ref 99, .ref 100, .ref 101, .ref 102, .int 0, .int 0, .int 0, .long 0, .int 0, .ref 103, .ref 104, .ref 105, .ref 106, .ref 107, .ref 108, .ref 109, .ref 110, .ref 111, .ref 112, .ref 113, .ref 114, .null, .null, .null, .null, .null, .null, .null, .null, .null, .null, .null, .int 0, .int 0, .null, .null, .null, .null]), (xI 8), (xI 192), (xI 192), (xI 192), (xJ 192), (xJ 192), (xI 192), (xJ 1536), (xI 192), (xI 192), (xZ 192), (xI 192), (xI 192), (xI 12288), (xJ 12288), (xI 12288), (xI 120), (xI 24), (xI 24), (xI 24), (xJ 24), (xJ 24), (xI 24), (xJ 192), (xI 4096), (xI 192), (xI 192), (xI 192), (xI 192), (xI 12288), (xJ 12288), (xI 12288), (xJ 16), (xI 8), (xI 192), (xI 192), (xI 192)]) rfl ?_
  refine wLan 334 i143_333 rfl rfl ?_
  refine wKs 337 192 i143_334 (by decide) rfl ?_
  refine eNewA (n := 115) (N := 192) (c := (xJ 192)) 15 39916 14 39724 i143_337 (by decide) (by decide) rfl rfl rfl rfl ?_
  refine tHeap (h' := [c0, c1, c2, c3, c4, c5, c6, c7, c8, c9, c10, c11, c12, c13, c14, c15, c16, c17, c18, c19, c20, c21, c22, c23, c24, c25, c26, c27, c28, c29, c30, c31, c32, c33, c34, c35, c36, c37, c38, c39, c40, c41, c42, c43, c44, c45, c46, c47, c48, c49, c50, c51, c52, c53, c54, c55, c56, c57, c58, c59, c60, c61, c62, c63, c64, c65, c66, c67, c68, c69, c70, c71, c72, c73, c74, c75, c76, .inr (7, [.int 0, .ref 78, .ref 79, .ref 80, .ref 81, .ref 82, .ref 83, .ref 84, .ref 85, .int 99, .ref 86, .ref 87, .ref 88, .ref 89, .ref 90, .ref 91, .ref 92, .ref 93, .ref 94, .int 0, .int 0, .int 0, .int 0, .int 0, .int 0, .int 0, .int 0, .ref 95, .ref 96, .ref 97, .ref 98, .ref 99, .ref 100, .ref 101, .ref 102, .int 0, .int 0, .int 0, .long 0, .int 0, .ref 103, .ref 104, .ref 105, .ref 106, .ref 107, .ref 108, .ref 109, .ref 110, .ref 111, .ref 112, .ref 113, .ref 114, .null, .null, .null, .null, .null, .null, .null, .null, .null, .null, .null, .int 0, .int 0, .null, .null, .null, .null]), (xI 8), (xI 192), (xI 192), (xI 192), (xJ 192), (xJ 192), (xI 192), (xJ 1536), (xI 192), (xI 192), (xZ 192), (xI 192), (xI 192), (xI 12288), (xJ 12288), (xI 12288), (xI 120), (xI 24), (xI 24), (xI 24), (xJ 24), (xJ 24), (xI 24), (xJ 192), (xI 4096), (xI 192), (xI 192), (xI 192), (xI 192), (xI 12288), (xJ 12288), (xI 12288), (xJ 16), (xI 8), (xI 192), (xI 192), (xI 192), (xJ 192)]) rfl ?_
  refine wPut 342 i143_339 p143_130 rfl (by decide) rfl rfl rfl ?_
  refine tHeap (h' := [c0, c1, c2, c3, c4, c5, c6, c7, c8, c9, c10, c11, c12, c13, c14, c15, c16, c17, c18, c19, c20, c21, c22, c23, c24, c25, c26, c27, c28, c29, c30, c31, c32, c33, c34, c35, c36, c37, c38, c39, c40, c41, c42, c43, c44, c45, c46, c47, c48, c49, c50, c51, c52, c53, c54, c55, c56, c57, c58, c59, c60, c61, c62, c63, c64, c65, c66, c67, c68, c69, c70, c71, c72, c73, c74, c75, c76, .inr (7, [.int 0, .ref 78, .ref 79, .ref 80, .ref 81, .ref 82, .ref 83, .ref 84, .ref 85, .int 99, .ref 86, .ref 87, .ref 88, .ref 89, .ref 90, .ref 91, .ref 92, .ref 93, .ref 94, .int 0, .int 0, .int 0, .int 0, .int 0, .int 0, .int 0, .int 0, .ref 95, .ref 96, .ref 97, .ref 98, .ref 99, .ref 100, .ref 101, .ref 102, .int 0, .int 0, .int 0, .long 0, .int 0, .ref 103, .ref 104, .ref 105, .ref 106, .ref 107, .ref 108, .ref 109, .ref 110, .ref 111, .ref 112, .ref 113, .ref 114, .ref 115, .null, .null, .null, .null, .null, .null, .null, .null, .null, .null, .int 0, .int 0, .null, .null, .null, .null]), (xI 8), (xI 192), (xI 192), (xI 192), (xJ 192), (xJ 192), (xI 192), (xJ 1536), (xI 192), (xI 192), (xZ 192), (xI 192), (xI 192), (xI 12288), (xJ 12288), (xI 12288), (xI 120), (xI 24), (xI 24), (xI 24), (xJ 24), (xJ 24), (xI 24), (xJ 192), (xI 4096), (xI 192), (xI 192), (xI 192), (xI 192), (xI 12288), (xJ 12288), (xI 12288), (xJ 16), (xI 8), (xI 192), (xI 192), (xI 192), (xJ 192)]) rfl ?_
  refine wLan 343 i143_342 rfl rfl ?_
  refine wKs 346 192 i143_343 (by decide) rfl ?_
  refine eNewA (n := 116) (N := 192) (c := (xJ 192)) 14 39724 13 39532 i143_346 (by decide) (by decide) rfl rfl rfl rfl ?_
  refine tHeap (h' := [c0, c1, c2, c3, c4, c5, c6, c7, c8, c9, c10, c11, c12, c13, c14, c15, c16, c17, c18, c19, c20, c21, c22, c23, c24, c25, c26, c27, c28, c29, c30, c31, c32, c33, c34, c35, c36, c37, c38, c39, c40, c41, c42, c43, c44, c45, c46, c47, c48, c49, c50, c51, c52, c53, c54, c55, c56, c57, c58, c59, c60, c61, c62, c63, c64, c65, c66, c67, c68, c69, c70, c71, c72, c73, c74, c75, c76, .inr (7, [.int 0, .ref 78, .ref 79, .ref 80, .ref 81, .ref 82, .ref 83, .ref 84, .ref 85, .int 99, .ref 86, .ref 87, .ref 88, .ref 89, .ref 90, .ref 91, .ref 92, .ref 93, .ref 94, .int 0, .int 0, .int 0, .int 0, .int 0, .int 0, .int 0, .int 0, .ref 95, .ref 96, .ref 97, .ref 98, .ref 99, .ref 100, .ref 101, .ref 102, .int 0, .int 0, .int 0, .long 0, .int 0, .ref 103, .ref 104, .ref 105, .ref 106, .ref 107, .ref 108, .ref 109, .ref 110, .ref 111, .ref 112, .ref 113, .ref 114, .ref 115, .null, .null, .null, .null, .null, .null, .null, .null, .null, .null, .int 0, .int 0, .null, .null, .null, .null]), (xI 8), (xI 192), (xI 192), (xI 192), (xJ 192), (xJ 192), (xI 192), (xJ 1536), (xI 192), (xI 192), (xZ 192), (xI 192), (xI 192), (xI 12288), (xJ 12288), (xI 12288), (xI 120), (xI 24), (xI 24), (xI 24), (xJ 24), (xJ 24), (xI 24), (xJ 192), (xI 4096), (xI 192), (xI 192), (xI 192), (xI 192), (xI 12288), (xJ 12288), (xI 12288), (xJ 16), (xI 8), (xI 192), (xI 192), (xI 192), (xJ 192), (xJ 192)]) rfl ?_
  refine wPut 351 i143_348 p143_133 rfl (by decide) rfl rfl rfl ?_
  refine tHeap (h' := [c0, c1, c2, c3, c4, c5, c6, c7, c8, c9, c10, c11, c12, c13, c14, c15, c16, c17, c18, c19, c20, c21, c22, c23, c24, c25, c26, c27, c28, c29, c30, c31, c32, c33, c34, c35, c36, c37, c38, c39, c40, c41, c42, c43, c44, c45, c46, c47, c48, c49, c50, c51, c52, c53, c54, c55, c56, c57, c58, c59, c60, c61, c62, c63, c64, c65, c66, c67, c68, c69, c70, c71, c72, c73, c74, c75, c76, .inr (7, [.int 0, .ref 78, .ref 79, .ref 80, .ref 81, .ref 82, .ref 83, .ref 84, .ref 85, .int 99, .ref 86, .ref 87, .ref 88, .ref 89, .ref 90, .ref 91, .ref 92, .ref 93, .ref 94, .int 0, .int 0, .int 0, .int 0, .int 0, .int 0, .int 0, .int 0, .ref 95, .ref 96, .ref 97, .ref 98, .ref 99, .ref 100, .ref 101, .ref 102, .int 0, .int 0, .int 0, .long 0, .int 0, .ref 103, .ref 104, .ref 105, .ref 106, .ref 107, .ref 108, .ref 109, .ref 110, .ref 111, .ref 112, .ref 113, .ref 114, .ref 115, .ref 116, .null, .null, .null, .null, .null, .null, .null, .null, .null, .int 0, .int 0, .null, .null, .null, .null]), (xI 8), (xI 192), (xI 192), (xI 192), (xJ 192), (xJ 192), (xI 192), (xJ 1536), (xI 192), (xI 192), (xZ 192), (xI 192), (xI 192), (xI 12288), (xJ 12288), (xI 12288), (xI 120), (xI 24), (xI 24), (xI 24), (xJ 24), (xJ 24), (xI 24), (xJ 192), (xI 4096), (xI 192), (xI 192), (xI 192), (xI 192), (xI 12288), (xJ 12288), (xI 12288), (xJ 16), (xI 8), (xI 192), (xI 192), (xI 192), (xJ 192), (xJ 192)]) rfl ?_
  refine wLan 352 i143_351 rfl rfl ?_
  refine wKs 355 192 i143_352 (by decide) rfl ?_
  refine eNewA (n := 117) (N := 192) (c := (xI 192)) 13 39532 12 39340 i143_355 (by decide) (by decide) rfl rfl rfl rfl ?_
  refine tHeap (h' := [c0, c1, c2, c3, c4, c5, c6, c7, c8, c9, c10, c11, c12, c13, c14, c15, c16, c17, c18, c19, c20, c21, c22, c23, c24, c25, c26, c27, c28, c29, c30, c31, c32, c33, c34, c35, c36, c37, c38, c39, c40, c41, c42, c43, c44, c45, c46, c47, c48, c49, c50, c51, c52, c53, c54, c55, c56, c57, c58, c59, c60, c61, c62, c63, c64, c65, c66, c67, c68, c69, c70, c71, c72, c73, c74, c75, c76, .inr (7, [.int 0, .ref 78, .ref 79, .ref 80, .ref 81, .ref 82, .ref 83, .ref 84, .ref 85, .int 99, .ref 86, .ref 87, .ref 88, .ref 89, .ref 90, .ref 91, .ref 92, .ref 93, .ref 94, .int 0, .int 0, .int 0, .int 0, .int 0, .int 0, .int 0, .int 0, .ref 95, .ref 96, .ref 97, .ref 98, .ref 99, .ref 100, .ref 101, .ref 102, .int 0, .int 0, .int 0, .long 0, .int 0, .ref 103, .ref 104, .ref 105, .ref 106, .ref 107, .ref 108, .ref 109, .ref 110, .ref 111, .ref 112, .ref 113, .ref 114, .ref 115, .ref 116, .null, .null, .null, .null, .null, .null, .null, .null, .null, .int 0, .int 0, .null, .null, .null, .null]), (xI 8), (xI 192), (xI 192), (xI 192), (xJ 192), (xJ 192), (xI 192), (xJ 1536), (xI 192), (xI 192), (xZ 192), (xI 192), (xI 192), (xI 12288), (xJ 12288), (xI 12288), (xI 120), (xI 24), (xI 24), (xI 24), (xJ 24), (xJ 24), (xI 24), (xJ 192), (xI 4096), (xI 192), (xI 192), (xI 192), (xI 192), (xI 12288), (xJ 12288), (xI 12288), (xJ 16), (xI 8), (xI 192), (xI 192), (xI 192), (xJ 192), (xJ 192), (xI 192)]) rfl ?_
  refine wPut 360 i143_357 p143_136 rfl (by decide) rfl rfl rfl ?_
  refine tHeap (h' := [c0, c1, c2, c3, c4, c5, c6, c7, c8, c9, c10, c11, c12, c13, c14, c15, c16, c17, c18, c19, c20, c21, c22, c23, c24, c25, c26, c27, c28, c29, c30, c31, c32, c33, c34, c35, c36, c37, c38, c39, c40, c41, c42, c43, c44, c45, c46, c47, c48, c49, c50, c51, c52, c53, c54, c55, c56, c57, c58, c59, c60, c61, c62, c63, c64, c65, c66, c67, c68, c69, c70, c71, c72, c73, c74, c75, c76, .inr (7, [.int 0, .ref 78, .ref 79, .ref 80, .ref 81, .ref 82, .ref 83, .ref 84, .ref 85, .int 99, .ref 86, .ref 87, .ref 88, .ref 89, .ref 90, .ref 91, .ref 92, .ref 93, .ref 94, .int 0, .int 0, .int 0, .int 0, .int 0, .int 0, .int 0, .int 0, .ref 95, .ref 96, .ref 97, .ref 98, .ref 99, .ref 100, .ref 101, .ref 102, .int 0, .int 0, .int 0, .long 0, .int 0, .ref 103, .ref 104, .ref 105, .ref 106, .ref 107, .ref 108, .ref 109, .ref 110, .ref 111, .ref 112, .ref 113, .ref 114, .ref 115, .ref 116, .ref 117, .null, .null, .null, .null, .null, .null, .null, .null, .int 0, .int 0, .null, .null, .null, .null]), (xI 8), (xI 192), (xI 192), (xI 192), (xJ 192), (xJ 192), (xI 192), (xJ 1536), (xI 192), (xI 192), (xZ 192), (xI 192), (xI 192), (xI 12288), (xJ 12288), (xI 12288), (xI 120), (xI 24), (xI 24), (xI 24), (xJ 24), (xJ 24), (xI 24), (xJ 192), (xI 4096), (xI 192), (xI 192), (xI 192), (xI 192), (xI 12288), (xJ 12288), (xI 12288), (xJ 16), (xI 8), (xI 192), (xI 192), (xI 192), (xJ 192), (xJ 192), (xI 192)]) rfl ?_
  refine wLan 361 i143_360 rfl rfl ?_
  refine wKs 364 1536 i143_361 (by decide) rfl ?_
  refine eNewA (n := 118) (N := 1536) (c := (xJ 1536)) 12 39340 11 37804 i143_364 (by decide) (by decide) rfl rfl rfl rfl ?_
  refine tHeap (h' := [c0, c1, c2, c3, c4, c5, c6, c7, c8, c9, c10, c11, c12, c13, c14, c15, c16, c17, c18, c19, c20, c21, c22, c23, c24, c25, c26, c27, c28, c29, c30, c31, c32, c33, c34, c35, c36, c37, c38, c39, c40, c41, c42, c43, c44, c45, c46, c47, c48, c49, c50, c51, c52, c53, c54, c55, c56, c57, c58, c59, c60, c61, c62, c63, c64, c65, c66, c67, c68, c69, c70, c71, c72, c73, c74, c75, c76, .inr (7, [.int 0, .ref 78, .ref 79, .ref 80, .ref 81, .ref 82, .ref 83, .ref 84, .ref 85, .int 99, .ref 86, .ref 87, .ref 88, .ref 89, .ref 90, .ref 91, .ref 92, .ref 93, .ref 94, .int 0, .int 0, .int 0, .int 0, .int 0, .int 0, .int 0, .int 0, .ref 95, .ref 96, .ref 97, .ref 98, .ref 99, .ref 100, .ref 101, .ref 102, .int 0, .int 0, .int 0, .long 0, .int 0, .ref 103, .ref 104, .ref 105, .ref 106, .ref 107, .ref 108, .ref 109, .ref 110, .ref 111, .ref 112, .ref 113, .ref 114, .ref 115, .ref 116, .ref 117, .null, .null, .null, .null, .null, .null, .null, .null, .int 0, .int 0, .null, .null, .null, .null]), (xI 8), (xI 192), (xI 192), (xI 192), (xJ 192), (xJ 192), (xI 192), (xJ 1536), (xI 192), (xI 192), (xZ 192), (xI 192), (xI 192), (xI 12288), (xJ 12288), (xI 12288), (xI 120), (xI 24), (xI 24), (xI 24), (xJ 24), (xJ 24), (xI 24), (xJ 192), (xI 4096), (xI 192), (xI 192), (xI 192), (xI 192), (xI 12288), (xJ 12288), (xI 12288), (xJ 16), (xI 8), (xI 192), (xI 192), (xI 192), (xJ 192), (xJ 192), (xI 192), (xJ 1536)]) rfl ?_
  refine wPut 369 i143_366 p143_139 rfl (by decide) rfl rfl rfl ?_
  refine tHeap (h' := [c0, c1, c2, c3, c4, c5, c6, c7, c8, c9, c10, c11, c12, c13, c14, c15, c16, c17, c18, c19, c20, c21, c22, c23, c24, c25, c26, c27, c28, c29, c30, c31, c32, c33, c34, c35, c36, c37, c38, c39, c40, c41, c42, c43, c44, c45, c46, c47, c48, c49, c50, c51, c52, c53, c54, c55, c56, c57, c58, c59, c60, c61, c62, c63, c64, c65, c66, c67, c68, c69, c70, c71, c72, c73, c74, c75, c76, .inr (7, [.int 0, .ref 78, .ref 79, .ref 80, .ref 81, .ref 82, .ref 83, .ref 84, .ref 85, .int 99, .ref 86, .ref 87, .ref 88, .ref 89, .ref 90, .ref 91, .ref 92, .ref 93, .ref 94, .int 0, .int 0, .int 0, .int 0, .int 0, .int 0, .int 0, .int 0, .ref 95, .ref 96, .ref 97, .ref 98, .ref 99, .ref 100, .ref 101, .ref 102, .int 0, .int 0, .int 0, .long 0, .int 0, .ref 103, .ref 104, .ref 105, .ref 106, .ref 107, .ref 108, .ref 109, .ref 110, .ref 111, .ref 112, .ref 113, .ref 114, .ref 115, .ref 116, .ref 117, .ref 118, .null, .null, .null, .null, .null, .null, .null, .int 0, .int 0, .null, .null, .null, .null]), (xI 8), (xI 192), (xI 192), (xI 192), (xJ 192), (xJ 192), (xI 192), (xJ 1536), (xI 192), (xI 192), (xZ 192), (xI 192), (xI 192), (xI 12288), (xJ 12288), (xI 12288), (xI 120), (xI 24), (xI 24), (xI 24), (xJ 24), (xJ 24), (xI 24), (xJ 192), (xI 4096), (xI 192), (xI 192), (xI 192), (xI 192), (xI 12288), (xJ 12288), (xI 12288), (xJ 16), (xI 8), (xI 192), (xI 192), (xI 192), (xJ 192), (xJ 192), (xI 192), (xJ 1536)]) rfl ?_
  refine wLan 370 i143_369 rfl rfl ?_
  refine wKs 373 192 i143_370 (by decide) rfl ?_
  refine eNewA (n := 119) (N := 192) (c := (xI 192)) 11 37804 10 37612 i143_373 (by decide) (by decide) rfl rfl rfl rfl ?_
  refine tHeap (h' := [c0, c1, c2, c3, c4, c5, c6, c7, c8, c9, c10, c11, c12, c13, c14, c15, c16, c17, c18, c19, c20, c21, c22, c23, c24, c25, c26, c27, c28, c29, c30, c31, c32, c33, c34, c35, c36, c37, c38, c39, c40, c41, c42, c43, c44, c45, c46, c47, c48, c49, c50, c51, c52, c53, c54, c55, c56, c57, c58, c59, c60, c61, c62, c63, c64, c65, c66, c67, c68, c69, c70, c71, c72, c73, c74, c75, c76, .inr (7, [.int 0, .ref 78, .ref 79, .ref 80, .ref 81, .ref 82, .ref 83, .ref 84, .ref 85, .int 99, .ref 86, .ref 87, .ref 88, .ref 89, .ref 90, .ref 91, .ref 92, .ref 93, .ref 94, .int 0, .int 0, .int 0, .int 0, .int 0, .int 0, .int 0, .int 0, .ref 95, .ref 96, .ref 97, .ref 98, .ref 99, .ref 100, .ref 101, .ref 102, .int 0, .int 0, .int 0, .long 0, .int 0, .ref 103, .ref 104, .ref 105, .ref 106, .ref 107, .ref 108, .ref 109, .ref 110, .ref 111, .ref 112, .ref 113, .ref 114, .ref 115, .ref 116, .ref 117, .ref 118, .null, .null, .null, .null, .null, .null, .null, .int 0, .int 0, .null, .null, .null, .null]), (xI 8), (xI 192), (xI 192), (xI 192), (xJ 192), (xJ 192), (xI 192), (xJ 1536), (xI 192), (xI 192), (xZ 192), (xI 192), (xI 192), (xI 12288), (xJ 12288), (xI 12288), (xI 120), (xI 24), (xI 24), (xI 24), (xJ 24), (xJ 24), (xI 24), (xJ 192), (xI 4096), (xI 192), (xI 192), (xI 192), (xI 192), (xI 12288), (xJ 12288), (xI 12288), (xJ 16), (xI 8), (xI 192), (xI 192), (xI 192), (xJ 192), (xJ 192), (xI 192), (xJ 1536), (xI 192)]) rfl ?_
  refine wPut 378 i143_375 p143_142 rfl (by decide) rfl rfl rfl ?_
  refine tHeap (h' := [c0, c1, c2, c3, c4, c5, c6, c7, c8, c9, c10, c11, c12, c13, c14, c15, c16, c17, c18, c19, c20, c21, c22, c23, c24, c25, c26, c27, c28, c29, c30, c31, c32, c33, c34, c35, c36, c37, c38, c39, c40, c41, c42, c43, c44, c45, c46, c47, c48, c49, c50, c51, c52, c53, c54, c55, c56, c57, c58, c59, c60, c61, c62, c63, c64, c65, c66, c67, c68, c69, c70, c71, c72, c73, c74, c75, c76, .inr (7, [.int 0, .ref 78, .ref 79, .ref 80, .ref 81, .ref 82, .ref 83, .ref 84, .ref 85, .int 99, .ref 86, .ref 87, .ref 88, .ref 89, .ref 90, .ref 91, .ref 92, .ref 93, .ref 94, .int 0, .int 0, .int 0, .int 0, .int 0, .int 0, .int 0, .int 0, .ref 95, .ref 96, .ref 97, .ref 98, .ref 99, .ref 100, .ref 101, .ref 102, .int 0, .int 0, .int 0, .long 0, .int 0, .ref 103, .ref 104, .ref 105, .ref 106, .ref 107, .ref 108, .ref 109, .ref 110, .ref 111, .ref 112, .ref 113, .ref 114, .ref 115, .ref 116, .ref 117, .ref 118, .ref 119, .null, .null, .null, .null, .null, .null, .int 0, .int 0, .null, .null, .null, .null]), (xI 8), (xI 192), (xI 192), (xI 192), (xJ 192), (xJ 192), (xI 192), (xJ 1536), (xI 192), (xI 192), (xZ 192), (xI 192), (xI 192), (xI 12288), (xJ 12288), (xI 12288), (xI 120), (xI 24), (xI 24), (xI 24), (xJ 24), (xJ 24), (xI 24), (xJ 192), (xI 4096), (xI 192), (xI 192), (xI 192), (xI 192), (xI 12288), (xJ 12288), (xI 12288), (xJ 16), (xI 8), (xI 192), (xI 192), (xI 192), (xJ 192), (xJ 192), (xI 192), (xJ 1536), (xI 192)]) rfl ?_
  refine wLan 379 i143_378 rfl rfl ?_
  refine wKs 382 192 i143_379 (by decide) rfl ?_
  refine eNewA (n := 120) (N := 192) (c := (xI 192)) 10 37612 9 37420 i143_382 (by decide) (by decide) rfl rfl rfl rfl ?_
  refine tHeap (h' := [c0, c1, c2, c3, c4, c5, c6, c7, c8, c9, c10, c11, c12, c13, c14, c15, c16, c17, c18, c19, c20, c21, c22, c23, c24, c25, c26, c27, c28, c29, c30, c31, c32, c33, c34, c35, c36, c37, c38, c39, c40, c41, c42, c43, c44, c45, c46, c47, c48, c49, c50, c51, c52, c53, c54, c55, c56, c57, c58, c59, c60, c61, c62, c63, c64, c65, c66, c67, c68, c69, c70, c71, c72, c73, c74, c75, c76, .inr (7, [.int 0, .ref 78, .ref 79, .ref 80, .ref 81, .ref 82, .ref 83, .ref 84, .ref 85, .int 99, .ref 86, .ref 87, .ref 88, .ref 89, .ref 90, .ref 91, .ref 92, .ref 93, .ref 94, .int 0, .int 0, .int 0, .int 0, .int 0, .int 0, .int 0, .int 0, .ref 95, .ref 96, .ref 97, .ref 98, .ref 99, .ref 100, .ref 101, .ref 102, .int 0, .int 0, .int 0, .long 0, .int 0, .ref 103, .ref 104, .ref 105, .ref 106, .ref 107, .ref 108, .ref 109, .ref 110, .ref 111, .ref 112, .ref 113, .ref 114, .ref 115, .ref 116, .ref 117, .ref 118, .ref 119, .null, .null, .null, .null, .null, .null, .int 0, .int 0, .null, .null, .null, .null]), (xI 8), (xI 192), (xI 192), (xI 192), (xJ 192), (xJ 192), (xI 192), (xJ 1536), (xI 192), (xI 192), (xZ 192), (xI 192), (xI 192), (xI 12288), (xJ 12288), (xI 12288), (xI 120), (xI 24), (xI 24), (xI 24), (xJ 24), (xJ 24), (xI 24), (xJ 192), (xI 4096), (xI 192), (xI 192), (xI 192), (xI 192), (xI 12288), (xJ 12288), (xI 12288), (xJ 16), (xI 8), (xI 192), (xI 192), (xI 192), (xJ 192), (xJ 192), (xI 192), (xJ 1536), (xI 192), (xI 192)]) rfl ?_
  refine wPut 387 i143_384 p143_145 rfl (by decide) rfl rfl rfl ?_
  refine tHeap (h' := [c0, c1, c2, c3, c4, c5, c6, c7, c8, c9, c10, c11, c12, c13, c14, c15, c16, c17, c18, c19, c20, c21, c22, c23, c24, c25, c26, c27, c28, c29, c30, c31, c32, c33, c34, c35, c36, c37, c38, c39, c40, c41, c42, c43, c44, c45, c46, c47, c48, c49, c50, c51, c52, c53, c54, c55, c56, c57, c58, c59, c60, c61, c62, c63, c64, c65, c66, c67, c68, c69, c70, c71, c72, c73, c74, c75, c76, .inr (7, [.int 0, .ref 78, .ref 79, .ref 80, .ref 81, .ref 82, .ref 83, .ref 84, .ref 85, .int 99, .ref 86, .ref 87, .ref 88, .ref 89, .ref 90, .ref 91, .ref 92, .ref 93, .ref 94, .int 0, .int 0, .int 0, .int 0, .int 0, .int 0, .int 0, .int 0, .ref 95, .ref 96, .ref 97, .ref 98, .ref 99, .ref 100, .ref 101, .ref 102, .int 0, .int 0, .int 0, .long 0, .int 0, .ref 103, .ref 104, .ref 105, .ref 106, .ref 107, .ref 108, .ref 109, .ref 110, .ref 111, .ref 112, .ref 113, .ref 114, .ref 115, .ref 116, .ref 117, .ref 118, .ref 119, .ref 120, .null, .null, .null, .null, .null, .int 0, .int 0, .null, .null, .null, .null]), (xI 8), (xI 192), (xI 192), (xI 192), (xJ 192), (xJ 192), (xI 192), (xJ 1536), (xI 192), (xI 192), (xZ 192), (xI 192), (xI 192), (xI 12288), (xJ 12288), (xI 12288), (xI 120), (xI 24), (xI 24), (xI 24), (xJ 24), (xJ 24), (xI 24), (xJ 192), (xI 4096), (xI 192), (xI 192), (xI 192), (xI 192), (xI 12288), (xJ 12288), (xI 12288), (xJ 16), (xI 8), (xI 192), (xI 192), (xI 192), (xJ 192), (xJ 192), (xI 192), (xJ 1536), (xI 192), (xI 192)]) rfl ?_
  refine wLan 388 i143_387 rfl rfl ?_
  refine wKs 391 192 i143_388 (by decide) rfl ?_
  refine eNewA (n := 121) (N := 192) (c := (xI 192)) 9 37420 8 37228 i143_391 (by decide) (by decide) rfl rfl rfl rfl ?_
  refine tHeap (h' := [c0, c1, c2, c3, c4, c5, c6, c7, c8, c9, c10, c11, c12, c13, c14, c15, c16, c17, c18, c19, c20, c21, c22, c23, c24, c25, c26, c27, c28, c29, c30, c31, c32, c33, c34, c35, c36, c37, c38, c39, c40, c41, c42, c43, c44, c45, c46, c47, c48, c49, c50, c51, c52, c53, c54, c55, c56, c57, c58, c59, c60, c61, c62, c63, c64, c65, c66, c67, c68, c69, c70, c71, c72, c73, c74, c75, c76, .inr (7, [.int 0, .ref 78, .ref 79, .ref 80, .ref 81, .ref 82, .ref 83, .ref 84, .ref 85, .int 99, .ref 86, .ref 87, .ref 88, .ref 89, .ref 90, .ref 91, .ref 92, .ref 93, .ref 94, .int 0, .int 0, .int 0, .int 0, .int 0, .int 0, .int 0, .int 0, .ref 95, .ref 96, .ref 97, .ref 98, .ref 99, .ref 100, .ref 101, .ref 102, .int 0, .int 0, .int 0, .long 0, .int 0, .ref 103, .ref 104, .ref 105, .ref 106, .ref 107, .ref 108, .ref 109, .ref 110, .ref 111, .ref 112, .ref 113, .ref 114, .ref 115, .ref 116, .ref 117, .ref 118, .ref 119, .ref 120, .null, .null, .null, .null, .null, .int 0, .int 0, .null, .null, .null, .null]), (xI 8), (xI 192), (xI 192), (xI 192), (xJ 192), (xJ 192), (xI 192), (xJ 1536), (xI 192), (xI 192), (xZ 192), (xI 192), (xI 192), (xI 12288), (xJ 12288), (xI 12288), (xI 120), (xI 24), (xI 24), (xI 24), (xJ 24), (xJ 24), (xI 24), (xJ 192), (xI 4096), (xI 192), (xI 192), (xI 192), (xI 192), (xI 12288), (xJ 12288), (xI 12288), (xJ 16), (xI 8), (xI 192), (xI 192), (xI 192), (xJ 192), (xJ 192), (xI 192), (xJ 1536), (xI 192), (xI 192), (xI 192)]) rfl ?_
  refine wPut 396 i143_393 p143_148 rfl (by decide) rfl rfl rfl ?_
  refine tHeap (h' := [c0, c1, c2, c3, c4, c5, c6, c7, c8, c9, c10, c11, c12, c13, c14, c15, c16, c17, c18, c19, c20, c21, c22, c23, c24, c25, c26, c27, c28, c29, c30, c31, c32, c33, c34, c35, c36, c37, c38, c39, c40, c41, c42, c43, c44, c45, c46, c47, c48, c49, c50, c51, c52, c53, c54, c55, c56, c57, c58, c59, c60, c61, c62, c63, c64, c65, c66, c67, c68, c69, c70, c71, c72, c73, c74, c75, c76, .inr (7, [.int 0, .ref 78, .ref 79, .ref 80, .ref 81, .ref 82, .ref 83, .ref 84, .ref 85, .int 99, .ref 86, .ref 87, .ref 88, .ref 89, .ref 90, .ref 91, .ref 92, .ref 93, .ref 94, .int 0, .int 0, .int 0, .int 0, .int 0, .int 0, .int 0, .int 0, .ref 95, .ref 96, .ref 97, .ref 98, .ref 99, .ref 100, .ref 101, .ref 102, .int 0, .int 0, .int 0, .long 0, .int 0, .ref 103, .ref 104, .ref 105, .ref 106, .ref 107, .ref 108, .ref 109, .ref 110, .ref 111, .ref 112, .ref 113, .ref 114, .ref 115, .ref 116, .ref 117, .ref 118, .ref 119, .ref 120, .ref 121, .null, .null, .null, .null, .int 0, .int 0, .null, .null, .null, .null]), (xI 8), (xI 192), (xI 192), (xI 192), (xJ 192), (xJ 192), (xI 192), (xJ 1536), (xI 192), (xI 192), (xZ 192), (xI 192), (xI 192), (xI 12288), (xJ 12288), (xI 12288), (xI 120), (xI 24), (xI 24), (xI 24), (xJ 24), (xJ 24), (xI 24), (xJ 192), (xI 4096), (xI 192), (xI 192), (xI 192), (xI 192), (xI 12288), (xJ 12288), (xI 12288), (xJ 16), (xI 8), (xI 192), (xI 192), (xI 192), (xJ 192), (xJ 192), (xI 192), (xJ 1536), (xI 192), (xI 192), (xI 192)]) rfl ?_
  refine wLan 397 i143_396 rfl rfl ?_
  refine wKs 400 192 i143_397 (by decide) rfl ?_
  refine eNewA (n := 122) (N := 192) (c := (xI 192)) 8 37228 7 37036 i143_400 (by decide) (by decide) rfl rfl rfl rfl ?_
  refine tHeap (h' := [c0, c1, c2, c3, c4, c5, c6, c7, c8, c9, c10, c11, c12, c13, c14, c15, c16, c17, c18, c19, c20, c21, c22, c23, c24, c25, c26, c27, c28, c29, c30, c31, c32, c33, c34, c35, c36, c37, c38, c39, c40, c41, c42, c43, c44, c45, c46, c47, c48, c49, c50, c51, c52, c53, c54, c55, c56, c57, c58, c59, c60, c61, c62, c63, c64, c65, c66, c67, c68, c69, c70, c71, c72, c73, c74, c75, c76, .inr (7, [.int 0, .ref 78, .ref 79, .ref 80, .ref 81, .ref 82, .ref 83, .ref 84, .ref 85, .int 99, .ref 86, .ref 87, .ref 88, .ref 89, .ref 90, .ref 91, .ref 92, .ref 93, .ref 94, .int 0, .int 0, .int 0, .int 0, .int 0, .int 0, .int 0, .int 0, .ref 95, .ref 96, .ref 97, .ref 98, .ref 99, .ref 100, .ref 101, .ref 102, .int 0, .int 0, .int 0, .long 0, .int 0, .ref 103, .ref 104, .ref 105, .ref 106, .ref 107, .ref 108, .ref 109, .ref 110, .ref 111, .ref 112, .ref 113, .ref 114, .ref 115, .ref 116, .ref 117, .ref 118, .ref 119, .ref 120, .ref 121, .null, .null, .null, .null, .int 0, .int 0, .null, .null, .null, .null]), (xI 8), (xI 192), (xI 192), (xI 192), (xJ 192), (xJ 192), (xI 192), (xJ 1536), (xI 192), (xI 192), (xZ 192), (xI 192), (xI 192), (xI 12288), (xJ 12288), (xI 12288), (xI 120), (xI 24), (xI 24), (xI 24), (xJ 24), (xJ 24), (xI 24), (xJ 192), (xI 4096), (xI 192), (xI 192), (xI 192), (xI 192), (xI 12288), (xJ 12288), (xI 12288), (xJ 16), (xI 8), (xI 192), (xI 192), (xI 192), (xJ 192), (xJ 192), (xI 192), (xJ 1536), (xI 192), (xI 192), (xI 192), (xI 192)]) rfl ?_
  refine wPut 405 i143_402 p143_151 rfl (by decide) rfl rfl rfl ?_
  refine tHeap (h' := [c0, c1, c2, c3, c4, c5, c6, c7, c8, c9, c10, c11, c12, c13, c14, c15, c16, c17, c18, c19, c20, c21, c22, c23, c24, c25, c26, c27, c28, c29, c30, c31, c32, c33, c34, c35, c36, c37, c38, c39, c40, c41, c42, c43, c44, c45, c46, c47, c48, c49, c50, c51, c52, c53, c54, c55, c56, c57, c58, c59, c60, c61, c62, c63, c64, c65, c66, c67, c68, c69, c70, c71, c72, c73, c74, c75, c76, .inr (7, [.int 0, .ref 78, .ref 79, .ref 80, .ref 81, .ref 82, .ref 83, .ref 84, .ref 85, .int 99, .ref 86, .ref 87, .ref 88, .ref 89, .ref 90, .ref 91, .ref 92, .ref 93, .ref 94, .int 0, .int 0, .int 0, .int 0, .int 0, .int 0, .int 0, .int 0, .ref 95, .ref 96, .ref 97, .ref 98, .ref 99, .ref 100, .ref 101, .ref 102, .int 0, .int 0, .int 0, .long 0, .int 0, .ref 103, .ref 104, .ref 105, .ref 106, .ref 107, .ref 108, .ref 109, .ref 110, .ref 111, .ref 112, .ref 113, .ref 114, .ref 115, .ref 116, .ref 117, .ref 118, .ref 119, .ref 120, .ref 121, .ref 122, .null, .null, .null, .int 0, .int 0, .null, .null, .null, .null]), (xI 8), (xI 192), (xI 192), (xI 192), (xJ 192), (xJ 192), (xI 192), (xJ 1536), (xI 192), (xI 192), (xZ 192), (xI 192), (xI 192), (xI 12288), (xJ 12288), (xI 12288), (xI 120), (xI 24), (xI 24), (xI 24), (xJ 24), (xJ 24), (xI 24), (xJ 192), (xI 4096), (xI 192), (xI 192), (xI 192), (xI 192), (xI 12288), (xJ 12288), (xI 12288), (xJ 16), (xI 8), (xI 192), (xI 192), (xI 192), (xJ 192), (xJ 192), (xI 192), (xJ 1536), (xI 192), (xI 192), (xI 192), (xI 192)]) rfl ?_
  refine wLan 406 i143_405 rfl rfl ?_
  refine wKs 409 12288 i143_406 (by decide) rfl ?_
  refine eNewA (n := 123) (N := 12288) (c := (xI 12288)) 7 37036 6 24748 i143_409 (by decide) (by decide) rfl rfl rfl rfl ?_
  refine tHeap (h' := [c0, c1, c2, c3, c4, c5, c6, c7, c8, c9, c10, c11, c12, c13, c14, c15, c16, c17, c18, c19, c20, c21, c22, c23, c24, c25, c26, c27, c28, c29, c30, c31, c32, c33, c34, c35, c36, c37, c38, c39, c40, c41, c42, c43, c44, c45, c46, c47, c48, c49, c50, c51, c52, c53, c54, c55, c56, c57, c58, c59, c60, c61, c62, c63, c64, c65, c66, c67, c68, c69, c70, c71, c72, c73, c74, c75, c76, .inr (7, [.int 0, .ref 78, .ref 79, .ref 80, .ref 81, .ref 82, .ref 83, .ref 84, .ref 85, .int 99, .ref 86, .ref 87, .ref 88, .ref 89, .ref 90, .ref 91, .ref 92, .ref 93, .ref 94, .int 0, .int 0, .int 0, .int 0, .int 0, .int 0, .int 0, .int 0, .ref 95, .ref 96, .ref 97, .ref 98, .ref 99, .ref 100, .ref 101, .ref 102, .int 0, .int 0, .int 0, .long 0, .int 0, .ref 103, .ref 104, .ref 105, .ref 106, .ref 107, .ref 108, .ref 109, .ref 110, .ref 111, .ref 112, .ref 113, .ref 114, .ref 115, .ref 116, .ref 117, .ref 118, .ref 119, .ref 120, .ref 121, .ref 122, .null, .null, .null, .int 0, .int 0, .null, .null, .null, .null]), (xI 8), (xI 192), (xI 192), (xI 192), (xJ 192), (xJ 192), (xI 192), (xJ 1536), (xI 192), (xI 192), (xZ 192), (xI 192), (xI 192), (xI 12288), (xJ 12288), (xI 12288), (xI 120), (xI 24), (xI 24), (xI 24), (xJ 24), (xJ 24), (xI 24), (xJ 192), (xI 4096), (xI 192), (xI 192), (xI 192), (xI 192), (xI 12288), (xJ 12288), (xI 12288), (xJ 16), (xI 8), (xI 192), (xI 192), (xI 192), (xJ 192), (xJ 192), (xI 192), (xJ 1536), (xI 192), (xI 192), (xI 192), (xI 192), (xI 12288)]) rfl ?_
  refine wPut 414 i143_411 p143_154 rfl (by decide) rfl rfl rfl ?_
  refine tHeap (h' := [c0, c1, c2, c3, c4, c5, c6, c7, c8, c9, c10, c11, c12, c13, c14, c15, c16, c17, c18, c19, c20, c21, c22, c23, c24, c25, c26, c27, c28, c29, c30, c31, c32, c33, c34, c35, c36, c37, c38, c39, c40, c41, c42, c43, c44, c45, c46, c47, c48, c49, c50, c51, c52, c53, c54, c55, c56, c57, c58, c59, c60, c61, c62, c63, c64, c65, c66, c67, c68, c69, c70, c71, c72, c73, c74, c75, c76, .inr (7, [.int 0, .ref 78, .ref 79, .ref 80, .ref 81, .ref 82, .ref 83, .ref 84, .ref 85, .int 99, .ref 86, .ref 87, .ref 88, .ref 89, .ref 90, .ref 91, .ref 92, .ref 93, .ref 94, .int 0, .int 0, .int 0, .int 0, .int 0, .int 0, .int 0, .int 0, .ref 95, .ref 96, .ref 97, .ref 98, .ref 99, .ref 100, .ref 101, .ref 102, .int 0, .int 0, .int 0, .long 0, .int 0, .ref 103, .ref 104, .ref 105, .ref 106, .ref 107, .ref 108, .ref 109, .ref 110, .ref 111, .ref 112, .ref 113, .ref 114, .ref 115, .ref 116, .ref 117, .ref 118, .ref 119, .ref 120, .ref 121, .ref 122, .ref 123, .null, .null, .int 0, .int 0, .null, .null, .null, .null]), (xI 8), (xI 192), (xI 192), (xI 192), (xJ 192), (xJ 192), (xI 192), (xJ 1536), (xI 192), (xI 192), (xZ 192), (xI 192), (xI 192), (xI 12288), (xJ 12288), (xI 12288), (xI 120), (xI 24), (xI 24), (xI 24), (xJ 24), (xJ 24), (xI 24), (xJ 192), (xI 4096), (xI 192), (xI 192), (xI 192), (xI 192), (xI 12288), (xJ 12288), (xI 12288), (xJ 16), (xI 8), (xI 192), (xI 192), (xI 192), (xJ 192), (xJ 192), (xI 192), (xJ 1536), (xI 192), (xI 192), (xI 192), (xI 192), (xI 12288)]) rfl ?_
  refine wLan 415 i143_414 rfl rfl ?_
  refine wKs 418 12288 i143_415 (by decide) rfl ?_
  refine eNewA (n := 124) (N := 12288) (c := (xJ 12288)) 6 24748 5 12460 i143_418 (by decide) (by decide) rfl rfl rfl rfl ?_
  refine tHeap (h' := [c0, c1, c2, c3, c4, c5, c6, c7, c8, c9, c10, c11, c12, c13, c14, c15, c16, c17, c18, c19, c20, c21, c22, c23, c24, c25, c26, c27, c28, c29, c30, c31, c32, c33, c34, c35, c36, c37, c38, c39, c40, c41, c42, c43, c44, c45, c46, c47, c48, c49, c50, c51, c52, c53, c54, c55, c56, c57, c58, c59, c60, c61, c62, c63, c64, c65, c66, c67, c68, c69, c70, c71, c72, c73, c74, c75, c76, .inr (7, [.int 0, .ref 78, .ref 79, .ref 80, .ref 81, .ref 82, .ref 83, .ref 84, .ref 85, .int 99, .ref 86, .ref 87, .ref 88, .ref 89, .ref 90, .ref 91, .ref 92, .ref 93, .ref 94, .int 0, .int 0, .int 0, .int 0, .int 0, .int 0, .int 0, .int 0, .ref 95, .ref 96, .ref 97, .ref 98, .ref 99, .ref 100, .ref 101, .ref 102, .int 0, .int 0, .int 0, .long 0, .int 0, .ref 103, .ref 104, .ref 105, .ref 106, .ref 107, .ref 108, .ref 109, .ref 110, .ref 111, .ref 112, .ref 113, .ref 114, .ref 115, .ref 116, .ref 117, .ref 118, .ref 119, .ref 120, .ref 121, .ref 122, .ref 123, .null, .null, .int 0, .int 0, .null, .null, .null, .null]), (xI 8), (xI 192), (xI 192), (xI 192), (xJ 192), (xJ 192), (xI 192), (xJ 1536), (xI 192), (xI 192), (xZ 192), (xI 192), (xI 192), (xI 12288), (xJ 12288), (xI 12288), (xI 120), (xI 24), (xI 24), (xI 24), (xJ 24), (xJ 24), (xI 24), (xJ 192), (xI 4096), (xI 192), (xI 192), (xI 192), (xI 192), (xI 12288), (xJ 12288), (xI 12288), (xJ 16), (xI 8), (xI 192), (xI 192), (xI 192), (xJ 192), (xJ 192), (xI 192), (xJ 1536), (xI 192), (xI 192), (xI 192), (xI 192), (xI 12288), (xJ 12288)]) rfl ?_
  refine wPut 423 i143_420 p143_157 rfl (by decide) rfl rfl rfl ?_
  refine tHeap (h' := [c0, c1, c2, c3, c4, c5, c6, c7, c8, c9, c10, c11, c12, c13, c14, c15, c16, c17, c18, c19, c20, c21, c22, c23, c24, c25, c26, c27, c28, c29, c30, c31, c32, c33, c34, c35, c36, c37, c38, c39, c40, c41, c42, c43, c44, c45, c46, c47, c48, c49, c50, c51, c52, c53, c54, c55, c56, c57, c58, c59, c60, c61, c62, c63, c64, c65, c66, c67, c68, c69, c70, c71, c72, c73, c74, c75, c76, .inr (7, [.int 0, .ref 78, .ref 79, .ref 80, .ref 81, .ref 82, .ref 83, .ref 84, .ref 85, .int 99, .ref 86, .ref 87, .ref 88, .ref 89, .ref 90, .ref 91, .ref 92, .ref 93, .ref 94, .int 0, .int 0, .int 0, .int 0, .int 0, .int 0, .int 0, .int 0, .ref 95, .ref 96, .ref 97, .ref 98, .ref 99, .ref 100, .ref 101, .ref 102, .int 0, .int 0, .int 0, .long 0, .int 0, .ref 103, .ref 104, .ref 105, .ref 106, .ref 107, .ref 108, .ref 109, .ref 110, .ref 111, .ref 112, .ref 113, .ref 114, .ref 115, .ref 116, .ref 117, .ref 118, .ref 119, .ref 120, .ref 121, .ref 122, .ref 123, .ref 124, .null, .int 0, .int 0, .null, .null, .null, .null]), (xI 8), (xI 192), (xI 192), (xI 192), (xJ 192), (xJ 192), (xI 192), (xJ 1536), (xI 192), (xI 192), (xZ 192), (xI 192), (xI 192), (xI 12288), (xJ 12288), (xI 12288), (xI 120), (xI 24), (xI 24), (xI 24), (xJ 24), (xJ 24), (xI 24), (xJ 192), (xI 4096), (xI 192), (xI 192), (xI 192), (xI 192), (xI 12288), (xJ 12288), (xI 12288), (xJ 16), (xI 8), (xI 192), (xI 192), (xI 192), (xJ 192), (xJ 192), (xI 192), (xJ 1536), (xI 192), (xI 192), (xI 192), (xI 192), (xI 12288), (xJ 12288)]) rfl ?_
  refine wLan 424 i143_423 rfl rfl ?_
  refine wKs 427 12288 i143_424 (by decide) rfl ?_
  refine eNewA (n := 125) (N := 12288) (c := (xI 12288)) 5 12460 4 172 i143_427 (by decide) (by decide) rfl rfl rfl rfl ?_
  refine tHeap (h' := [c0, c1, c2, c3, c4, c5, c6, c7, c8, c9, c10, c11, c12, c13, c14, c15, c16, c17, c18, c19, c20, c21, c22, c23, c24, c25, c26, c27, c28, c29, c30, c31, c32, c33, c34, c35, c36, c37, c38, c39, c40, c41, c42, c43, c44, c45, c46, c47, c48, c49, c50, c51, c52, c53, c54, c55, c56, c57, c58, c59, c60, c61, c62, c63, c64, c65, c66, c67, c68, c69, c70, c71, c72, c73, c74, c75, c76, .inr (7, [.int 0, .ref 78, .ref 79, .ref 80, .ref 81, .ref 82, .ref 83, .ref 84, .ref 85, .int 99, .ref 86, .ref 87, .ref 88, .ref 89, .ref 90, .ref 91, .ref 92, .ref 93, .ref 94, .int 0, .int 0, .int 0, .int 0, .int 0, .int 0, .int 0, .int 0, .ref 95, .ref 96, .ref 97, .ref 98, .ref 99, .ref 100, .ref 101, .ref 102, .int 0, .int 0, .int 0, .long 0, .int 0, .ref 103, .ref 104, .ref 105, .ref 106, .ref 107, .ref 108, .ref 109, .ref 110, .ref 111, .ref 112, .ref 113, .ref 114, .ref 115, .ref 116, .ref 117, .ref 118, .ref 119, .ref 120, .ref 121, .ref 122, .ref 123, .ref 124, .null, .int 0, .int 0, .null, .null, .null, .null]), (xI 8), (xI 192), (xI 192), (xI 192), (xJ 192), (xJ 192), (xI 192), (xJ 1536), (xI 192), (xI 192), (xZ 192), (xI 192), (xI 192), (xI 12288), (xJ 12288), (xI 12288), (xI 120), (xI 24), (xI 24), (xI 24), (xJ 24), (xJ 24), (xI 24), (xJ 192), (xI 4096), (xI 192), (xI 192), (xI 192), (xI 192), (xI 12288), (xJ 12288), (xI 12288), (xJ 16), (xI 8), (xI 192), (xI 192), (xI 192), (xJ 192), (xJ 192), (xI 192), (xJ 1536), (xI 192), (xI 192), (xI 192), (xI 192), (xI 12288), (xJ 12288), (xI 12288)]) rfl ?_
  refine wPut 432 i143_429 p143_160 rfl (by decide) rfl rfl rfl ?_
  refine tHeap (h' := [c0, c1, c2, c3, c4, c5, c6, c7, c8, c9, c10, c11, c12, c13, c14, c15, c16, c17, c18, c19, c20, c21, c22, c23, c24, c25, c26, c27, c28, c29, c30, c31, c32, c33, c34, c35, c36, c37, c38, c39, c40, c41, c42, c43, c44, c45, c46, c47, c48, c49, c50, c51, c52, c53, c54, c55, c56, c57, c58, c59, c60, c61, c62, c63, c64, c65, c66, c67, c68, c69, c70, c71, c72, c73, c74, c75, c76, .inr (7, [.int 0, .ref 78, .ref 79, .ref 80, .ref 81, .ref 82, .ref 83, .ref 84, .ref 85, .int 99, .ref 86, .ref 87, .ref 88, .ref 89, .ref 90, .ref 91, .ref 92, .ref 93, .ref 94, .int 0, .int 0, .int 0, .int 0, .int 0, .int 0, .int 0, .int 0, .ref 95, .ref 96, .ref 97, .ref 98, .ref 99, .ref 100, .ref 101, .ref 102, .int 0, .int 0, .int 0, .long 0, .int 0, .ref 103, .ref 104, .ref 105, .ref 106, .ref 107, .ref 108, .ref 109, .ref 110, .ref 111, .ref 112, .ref 113, .ref 114, .ref 115, .ref 116, .ref 117, .ref 118, .ref 119, .ref 120, .ref 121, .ref 122, .ref 123, .ref 124, .ref 125, .int 0, .int 0, .null, .null, .null, .null]), (xI 8), (xI 192), (xI 192), (xI 192), (xJ 192), (xJ 192), (xI 192), (xJ 1536), (xI 192), (xI 192), (xZ 192), (xI 192), (xI 192), (xI 12288), (xJ 12288), (xI 12288), (xI 120), (xI 24), (xI 24), (xI 24), (xJ 24), (xJ 24), (xI 24), (xJ 192), (xI 4096), (xI 192), (xI 192), (xI 192), (xI 192), (xI 12288), (xJ 12288), (xI 12288), (xJ 16), (xI 8), (xI 192), (xI 192), (xI 192), (xJ 192), (xJ 192), (xI 192), (xJ 1536), (xI 192), (xI 192), (xI 192), (xI 192), (xI 12288), (xJ 12288), (xI 12288)]) rfl ?_
  refine wLan 433 i143_432 rfl rfl ?_
  refine wK 434 4 i143_433 (by decide) rfl ?_
  refine eNewA (n := 126) (N := 4) (c := (xZ 4)) 4 172 3 168 i143_434 (by decide) (by decide) rfl rfl rfl rfl ?_
  refine tHeap (h' := [c0, c1, c2, c3, c4, c5, c6, c7, c8, c9, c10, c11, c12, c13, c14, c15, c16, c17, c18, c19, c20, c21, c22, c23, c24, c25, c26, c27, c28, c29, c30, c31, c32, c33, c34, c35, c36, c37, c38, c39, c40, c41, c42, c43, c44, c45, c46, c47, c48, c49, c50, c51, c52, c53, c54, c55, c56, c57, c58, c59, c60, c61, c62, c63, c64, c65, c66, c67, c68, c69, c70, c71, c72, c73, c74, c75, c76, .inr (7, [.int 0, .ref 78, .ref 79, .ref 80, .ref 81, .ref 82, .ref 83, .ref 84, .ref 85, .int 99, .ref 86, .ref 87, .ref 88, .ref 89, .ref 90, .ref 91, .ref 92, .ref 93, .ref 94, .int 0, .int 0, .int 0, .int 0, .int 0, .int 0, .int 0, .int 0, .ref 95, .ref 96, .ref 97, .ref 98, .ref 99, .ref 100, .ref 101, .ref 102, .int 0, .int 0, .int 0, .long 0, .int 0, .ref 103, .ref 104, .ref 105, .ref 106, .ref 107, .ref 108, .ref 109, .ref 110, .ref 111, .ref 112, .ref 113, .ref 114, .ref 115, .ref 116, .ref 117, .ref 118, .ref 119, .ref 120, .ref 121, .ref 122, .ref 123, .ref 124, .ref 125, .int 0, .int 0, .null, .null, .null, .null]), (xI 8), (xI 192), (xI 192), (xI 192), (xJ 192), (xJ 192), (xI 192), (xJ 1536), (xI 192), (xI 192), (xZ 192), (xI 192), (xI 192), (xI 12288), (xJ 12288), (xI 12288), (xI 120), (xI 24), (xI 24), (xI 24), (xJ 24), (xJ 24), (xI 24), (xJ 192), (xI 4096), (xI 192), (xI 192), (xI 192), (xI 192), (xI 12288), (xJ 12288), (xI 12288), (xJ 16), (xI 8), (xI 192), (xI 192), (xI 192), (xJ 192), (xJ 192), (xI 192), (xJ 1536), (xI 192), (xI 192), (xI 192), (xI 192), (xI 12288), (xJ 12288), (xI 12288), (xZ 4)]) rfl ?_
  refine wPut 439 i143_436 p143_163 rfl (by decide) rfl rfl rfl ?_
  refine tHeap (h' := [c0, c1, c2, c3, c4, c5, c6, c7, c8, c9, c10, c11, c12, c13, c14, c15, c16, c17, c18, c19, c20, c21, c22, c23, c24, c25, c26, c27, c28, c29, c30, c31, c32, c33, c34, c35, c36, c37, c38, c39, c40, c41, c42, c43, c44, c45, c46, c47, c48, c49, c50, c51, c52, c53, c54, c55, c56, c57, c58, c59, c60, c61, c62, c63, c64, c65, c66, c67, c68, c69, c70, c71, c72, c73, c74, c75, c76, .inr (7, [.int 0, .ref 78, .ref 79, .ref 80, .ref 81, .ref 82, .ref 83, .ref 84, .ref 85, .int 99, .ref 86, .ref 87, .ref 88, .ref 89, .ref 90, .ref 91, .ref 92, .ref 93, .ref 94, .int 0, .int 0, .int 0, .int 0, .int 0, .int 0, .int 0, .int 0, .ref 95, .ref 96, .ref 97, .ref 98, .ref 99, .ref 100, .ref 101, .ref 102, .int 0, .int 0, .int 0, .long 0, .int 0, .ref 103, .ref 104, .ref 105, .ref 106, .ref 107, .ref 108, .ref 109, .ref 110, .ref 111, .ref 112, .ref 113, .ref 114, .ref 115, .ref 116, .ref 117, .ref 118, .ref 119, .ref 120, .ref 121, .ref 122, .ref 123, .ref 124, .ref 125, .int 0, .int 0, .ref 126, .null, .null, .null]), (xI 8), (xI 192), (xI 192), (xI 192), (xJ 192), (xJ 192), (xI 192), (xJ 1536), (xI 192), (xI 192), (xZ 192), (xI 192), (xI 192), (xI 12288), (xJ 12288), (xI 12288), (xI 120), (xI 24), (xI 24), (xI 24), (xJ 24), (xJ 24), (xI 24), (xJ 192), (xI 4096), (xI 192), (xI 192), (xI 192), (xI 192), (xI 12288), (xJ 12288), (xI 12288), (xJ 16), (xI 8), (xI 192), (xI 192), (xI 192), (xJ 192), (xJ 192), (xI 192), (xJ 1536), (xI 192), (xI 192), (xI 192), (xI 192), (xI 12288), (xJ 12288), (xI 12288), (xZ 4)]) rfl ?_
  refine wLan 440 i143_439 rfl rfl ?_
  refine wK 441 4 i143_440 (by decide) rfl ?_
  refine eNewA (n := 127) (N := 4) (c := (xI 4)) 3 168 2 164 i143_441 (by decide) (by decide) rfl rfl rfl rfl ?_
  refine tHeap (h' := [c0, c1, c2, c3, c4, c5, c6, c7, c8, c9, c10, c11, c12, c13, c14, c15, c16, c17, c18, c19, c20, c21, c22, c23, c24, c25, c26, c27, c28, c29, c30, c31, c32, c33, c34, c35, c36, c37, c38, c39, c40, c41, c42, c43, c44, c45, c46, c47, c48, c49, c50, c51, c52, c53, c54, c55, c56, c57, c58, c59, c60, c61, c62, c63, c64, c65, c66, c67, c68, c69, c70, c71, c72, c73, c74, c75, c76, .inr (7, [.int 0, .ref 78, .ref 79, .ref 80, .ref 81, .ref 82, .ref 83, .ref 84, .ref 85, .int 99, .ref 86, .ref 87, .ref 88, .ref 89, .ref 90, .ref 91, .ref 92, .ref 93, .ref 94, .int 0, .int 0, .int 0, .int 0, .int 0, .int 0, .int 0, .int 0, .ref 95, .ref 96, .ref 97, .ref 98, .ref 99, .ref 100, .ref 101, .ref 102, .int 0, .int 0, .int 0, .long 0, .int 0, .ref 103, .ref 104, .ref 105, .ref 106, .ref 107, .ref 108, .ref 109, .ref 110, .ref 111, .ref 112, .ref 113, .ref 114, .ref 115, .ref 116, .ref 117, .ref 118, .ref 119, .ref 120, .ref 121, .ref 122, .ref 123, .ref 124, .ref 125, .int 0, .int 0, .ref 126, .null, .null, .null]), (xI 8), (xI 192), (xI 192), (xI 192), (xJ 192), (xJ 192), (xI 192), (xJ 1536), (xI 192), (xI 192), (xZ 192), (xI 192), (xI 192), (xI 12288), (xJ 12288), (xI 12288), (xI 120), (xI 24), (xI 24), (xI 24), (xJ 24), (xJ 24), (xI 24), (xJ 192), (xI 4096), (xI 192), (xI 192), (xI 192), (xI 192), (xI 12288), (xJ 12288), (xI 12288), (xJ 16), (xI 8), (xI 192), (xI 192), (xI 192), (xJ 192), (xJ 192), (xI 192), (xJ 1536), (xI 192), (xI 192), (xI 192), (xI 192), (xI 12288), (xJ 12288), (xI 12288), (xZ 4), (xI 4)]) rfl ?_
  refine wPut 446 i143_443 p143_166 rfl (by decide) rfl rfl rfl ?_
  refine tHeap (h' := [c0, c1, c2, c3, c4, c5, c6, c7, c8, c9, c10, c11, c12, c13, c14, c15, c16, c17, c18, c19, c20, c21, c22, c23, c24, c25, c26, c27, c28, c29, c30, c31, c32, c33, c34, c35, c36, c37, c38, c39, c40, c41, c42, c43, c44, c45, c46, c47, c48, c49, c50, c51, c52, c53, c54, c55, c56, c57, c58, c59, c60, c61, c62, c63, c64, c65, c66, c67, c68, c69, c70, c71, c72, c73, c74, c75, c76, .inr (7, [.int 0, .ref 78, .ref 79, .ref 80, .ref 81, .ref 82, .ref 83, .ref 84, .ref 85, .int 99, .ref 86, .ref 87, .ref 88, .ref 89, .ref 90, .ref 91, .ref 92, .ref 93, .ref 94, .int 0, .int 0, .int 0, .int 0, .int 0, .int 0, .int 0, .int 0, .ref 95, .ref 96, .ref 97, .ref 98, .ref 99, .ref 100, .ref 101, .ref 102, .int 0, .int 0, .int 0, .long 0, .int 0, .ref 103, .ref 104, .ref 105, .ref 106, .ref 107, .ref 108, .ref 109, .ref 110, .ref 111, .ref 112, .ref 113, .ref 114, .ref 115, .ref 116, .ref 117, .ref 118, .ref 119, .ref 120, .ref 121, .ref 122, .ref 123, .ref 124, .ref 125, .int 0, .int 0, .ref 126, .ref 127, .null, .null]), (xI 8), (xI 192), (xI 192), (xI 192), (xJ 192), (xJ 192), (xI 192), (xJ 1536), (xI 192), (xI 192), (xZ 192), (xI 192), (xI 192), (xI 12288), (xJ 12288), (xI 12288), (xI 120), (xI 24), (xI 24), (xI 24), (xJ 24), (xJ 24), (xI 24), (xJ 192), (xI 4096), (xI 192), (xI 192), (xI 192), (xI 192), (xI 12288), (xJ 12288), (xI 12288), (xJ 16), (xI 8), (xI 192), (xI 192), (xI 192), (xJ 192), (xJ 192), (xI 192), (xJ 1536), (xI 192), (xI 192), (xI 192), (xI 192), (xI 12288), (xJ 12288), (xI 12288), (xZ 4), (xI 4)]) rfl ?_
  refine wLan 447 i143_446 rfl rfl ?_
  refine wK 448 4 i143_447 (by decide) rfl ?_
  refine eNewA (n := 128) (N := 4) (c := (xI 4)) 2 164 1 160 i143_448 (by decide) (by decide) rfl rfl rfl rfl ?_
  refine tHeap (h' := [c0, c1, c2, c3, c4, c5, c6, c7, c8, c9, c10, c11, c12, c13, c14, c15, c16, c17, c18, c19, c20, c21, c22, c23, c24, c25, c26, c27, c28, c29, c30, c31, c32, c33, c34, c35, c36, c37, c38, c39, c40, c41, c42, c43, c44, c45, c46, c47, c48, c49, c50, c51, c52, c53, c54, c55, c56, c57, c58, c59, c60, c61, c62, c63, c64, c65, c66, c67, c68, c69, c70, c71, c72, c73, c74, c75, c76, .inr (7, [.int 0, .ref 78, .ref 79, .ref 80, .ref 81, .ref 82, .ref 83, .ref 84, .ref 85, .int 99, .ref 86, .ref 87, .ref 88, .ref 89, .ref 90, .ref 91, .ref 92, .ref 93, .ref 94, .int 0, .int 0, .int 0, .int 0, .int 0, .int 0, .int 0, .int 0, .ref 95, .ref 96, .ref 97, .ref 98, .ref 99, .ref 100, .ref 101, .ref 102, .int 0, .int 0, .int 0, .long 0, .int 0, .ref 103, .ref 104, .ref 105, .ref 106, .ref 107, .ref 108, .ref 109, .ref 110, .ref 111, .ref 112, .ref 113, .ref 114, .ref 115, .ref 116, .ref 117, .ref 118, .ref 119, .ref 120, .ref 121, .ref 122, .ref 123, .ref 124, .ref 125, .int 0, .int 0, .ref 126, .ref 127, .null, .null]), (xI 8), (xI 192), (xI 192), (xI 192), (xJ 192), (xJ 192), (xI 192), (xJ 1536), (xI 192), (xI 192), (xZ 192), (xI 192), (xI 192), (xI 12288), (xJ 12288), (xI 12288), (xI 120), (xI 24), (xI 24), (xI 24), (xJ 24), (xJ 24), (xI 24), (xJ 192), (xI 4096), (xI 192), (xI 192), (xI 192), (xI 192), (xI 12288), (xJ 12288), (xI 12288), (xJ 16), (xI 8), (xI 192), (xI 192), (xI 192), (xJ 192), (xJ 192), (xI 192), (xJ 1536), (xI 192), (xI 192), (xI 192), (xI 192), (xI 12288), (xJ 12288), (xI 12288), (xZ 4), (xI 4), (xI 4)]) rfl ?_
  refine wPut 453 i143_450 p143_169 rfl (by decide) rfl rfl rfl ?_
  refine tHeap (h' := [c0, c1, c2, c3, c4, c5, c6, c7, c8, c9, c10, c11, c12, c13, c14, c15, c16, c17, c18, c19, c20, c21, c22, c23, c24, c25, c26, c27, c28, c29, c30, c31, c32, c33, c34, c35, c36, c37, c38, c39, c40, c41, c42, c43, c44, c45, c46, c47, c48, c49, c50, c51, c52, c53, c54, c55, c56, c57, c58, c59, c60, c61, c62, c63, c64, c65, c66, c67, c68, c69, c70, c71, c72, c73, c74, c75, c76, .inr (7, [.int 0, .ref 78, .ref 79, .ref 80, .ref 81, .ref 82, .ref 83, .ref 84, .ref 85, .int 99, .ref 86, .ref 87, .ref 88, .ref 89, .ref 90, .ref 91, .ref 92, .ref 93, .ref 94, .int 0, .int 0, .int 0, .int 0, .int 0, .int 0, .int 0, .int 0, .ref 95, .ref 96, .ref 97, .ref 98, .ref 99, .ref 100, .ref 101, .ref 102, .int 0, .int 0, .int 0, .long 0, .int 0, .ref 103, .ref 104, .ref 105, .ref 106, .ref 107, .ref 108, .ref 109, .ref 110, .ref 111, .ref 112, .ref 113, .ref 114, .ref 115, .ref 116, .ref 117, .ref 118, .ref 119, .ref 120, .ref 121, .ref 122, .ref 123, .ref 124, .ref 125, .int 0, .int 0, .ref 126, .ref 127, .ref 128, .null]), (xI 8), (xI 192), (xI 192), (xI 192), (xJ 192), (xJ 192), (xI 192), (xJ 1536), (xI 192), (xI 192), (xZ 192), (xI 192), (xI 192), (xI 12288), (xJ 12288), (xI 12288), (xI 120), (xI 24), (xI 24), (xI 24), (xJ 24), (xJ 24), (xI 24), (xJ 192), (xI 4096), (xI 192), (xI 192), (xI 192), (xI 192), (xI 12288), (xJ 12288), (xI 12288), (xJ 16), (xI 8), (xI 192), (xI 192), (xI 192), (xJ 192), (xJ 192), (xI 192), (xJ 1536), (xI 192), (xI 192), (xI 192), (xI 192), (xI 12288), (xJ 12288), (xI 12288), (xZ 4), (xI 4), (xI 4)]) rfl ?_
  refine wLan 454 i143_453 rfl rfl ?_
  refine wKs 457 160 i143_454 (by decide) rfl ?_
  refine eNewA (n := 129) (N := 160) (c := (xJ 160)) 1 160 0 0 i143_457 (by decide) (by decide) rfl rfl rfl rfl ?_
  refine tHeap (h' := [c0, c1, c2, c3, c4, c5, c6, c7, c8, c9, c10, c11, c12, c13, c14, c15, c16, c17, c18, c19, c20, c21, c22, c23, c24, c25, c26, c27, c28, c29, c30, c31, c32, c33, c34, c35, c36, c37, c38, c39, c40, c41, c42, c43, c44, c45, c46, c47, c48, c49, c50, c51, c52, c53, c54, c55, c56, c57, c58, c59, c60, c61, c62, c63, c64, c65, c66, c67, c68, c69, c70, c71, c72, c73, c74, c75, c76, .inr (7, [.int 0, .ref 78, .ref 79, .ref 80, .ref 81, .ref 82, .ref 83, .ref 84, .ref 85, .int 99, .ref 86, .ref 87, .ref 88, .ref 89, .ref 90, .ref 91, .ref 92, .ref 93, .ref 94, .int 0, .int 0, .int 0, .int 0, .int 0, .int 0, .int 0, .int 0, .ref 95, .ref 96, .ref 97, .ref 98, .ref 99, .ref 100, .ref 101, .ref 102, .int 0, .int 0, .int 0, .long 0, .int 0, .ref 103, .ref 104, .ref 105, .ref 106, .ref 107, .ref 108, .ref 109, .ref 110, .ref 111, .ref 112, .ref 113, .ref 114, .ref 115, .ref 116, .ref 117, .ref 118, .ref 119, .ref 120, .ref 121, .ref 122, .ref 123, .ref 124, .ref 125, .int 0, .int 0, .ref 126, .ref 127, .ref 128, .null]), (xI 8), (xI 192), (xI 192), (xI 192), (xJ 192), (xJ 192), (xI 192), (xJ 1536), (xI 192), (xI 192), (xZ 192), (xI 192), (xI 192), (xI 12288), (xJ 12288), (xI 12288), (xI 120), (xI 24), (xI 24), (xI 24), (xJ 24), (xJ 24), (xI 24), (xJ 192), (xI 4096), (xI 192), (xI 192), (xI 192), (xI 192), (xI 12288), (xJ 12288), (xI 12288), (xJ 16), (xI 8), (xI 192), (xI 192), (xI 192), (xJ 192), (xJ 192), (xI 192), (xJ 1536), (xI 192), (xI 192), (xI 192), (xI 192), (xI 12288), (xJ 12288), (xI 12288), (xZ 4), (xI 4), (xI 4), (xJ 160)]) rfl ?_
  refine wPut 462 i143_459 p143_172 rfl (by decide) rfl rfl rfl ?_
  refine tHeap (h' := [c0, c1, c2, c3, c4, c5, c6, c7, c8, c9, c10, c11, c12, c13, c14, c15, c16, c17, c18, c19, c20, c21, c22, c23, c24, c25, c26, c27, c28, c29, c30, c31, c32, c33, c34, c35, c36, c37, c38, c39, c40, c41, c42, c43, c44, c45, c46, c47, c48, c49, c50, c51, c52, c53, c54, c55, c56, c57, c58, c59, c60, c61, c62, c63, c64, c65, c66, c67, c68, c69, c70, c71, c72, c73, c74, c75, c76, .inr (7, [.int 0, .ref 78, .ref 79, .ref 80, .ref 81, .ref 82, .ref 83, .ref 84, .ref 85, .int 99, .ref 86, .ref 87, .ref 88, .ref 89, .ref 90, .ref 91, .ref 92, .ref 93, .ref 94, .int 0, .int 0, .int 0, .int 0, .int 0, .int 0, .int 0, .int 0, .ref 95, .ref 96, .ref 97, .ref 98, .ref 99, .ref 100, .ref 101, .ref 102, .int 0, .int 0, .int 0, .long 0, .int 0, .ref 103, .ref 104, .ref 105, .ref 106, .ref 107, .ref 108, .ref 109, .ref 110, .ref 111, .ref 112, .ref 113, .ref 114, .ref 115, .ref 116, .ref 117, .ref 118, .ref 119, .ref 120, .ref 121, .ref 122, .ref 123, .ref 124, .ref 125, .int 0, .int 0, .ref 126, .ref 127, .ref 128, .ref 129]), (xI 8), (xI 192), (xI 192), (xI 192), (xJ 192), (xJ 192), (xI 192), (xJ 1536), (xI 192), (xI 192), (xZ 192), (xI 192), (xI 192), (xI 12288), (xJ 12288), (xI 12288), (xI 120), (xI 24), (xI 24), (xI 24), (xJ 24), (xJ 24), (xI 24), (xJ 192), (xI 4096), (xI 192), (xI 192), (xI 192), (xI 192), (xI 12288), (xJ 12288), (xI 12288), (xJ 16), (xI 8), (xI 192), (xI 192), (xI 192), (xJ 192), (xJ 192), (xI 192), (xJ 1536), (xI 192), (xI 192), (xI 192), (xI 192), (xI 12288), (xJ 12288), (xI 12288), (xZ 4), (xI 4), (xI 4), (xJ 160)]) rfl ?_
  refine wR0 i143_462 m143 ?_
  exact rfl
end
