-- ===== PART A: goes FIRST, ahead of the names: the tables' words, and 'selects' of the private methods out of them =====
/-- a private method of a class that the tables say can be made, by its rows of tables_1 -/
def lw_okq (q : MethodName × Nat) : Prop := (q.1.cls ≠ "java/lang/invoke/MethodHandle" ∧ q.1.cls ≠ "java/lang/invoke/VarHandle") ∧ Cond.instantiable q.1.cls q.2 ∈ tables_1 ∧ Cond.privateMethod q.1 ∈ tables_1 ∧ Cond.instanceMethod q.1 ∈ tables_1
theorem lw_p0 : lw_okq (⟨"DiceLaw$Text", "append", "(I)V"⟩, 2) := ⟨⟨by decide +kernel, by decide +kernel⟩, List.mem_of_getElem? (i := 32) (by decide +kernel), List.mem_of_getElem? (i := 385) (by decide +kernel), List.mem_of_getElem? (i := 386) (by decide +kernel)⟩
theorem lw_p1 : lw_okq (⟨"DiceLaw$LawReader", "read", "(LDiceLaw$Text;)I"⟩, 2) := ⟨⟨by decide +kernel, by decide +kernel⟩, List.mem_of_getElem? (i := 50) (by decide +kernel), List.mem_of_getElem? (i := 400) (by decide +kernel), List.mem_of_getElem? (i := 401) (by decide +kernel)⟩
theorem lw_p2 : lw_okq (⟨"DiceLaw$Cursor", "start", "(LDiceLaw$Text;)V"⟩, 3) := ⟨⟨by decide +kernel, by decide +kernel⟩, List.mem_of_getElem? (i := 56) (by decide +kernel), List.mem_of_getElem? (i := 404) (by decide +kernel), List.mem_of_getElem? (i := 405) (by decide +kernel)⟩
theorem lw_p3 : lw_okq (⟨"DiceLaw$Cursor", "need", "(I)V"⟩, 3) := ⟨⟨by decide +kernel, by decide +kernel⟩, List.mem_of_getElem? (i := 56) (by decide +kernel), List.mem_of_getElem? (i := 408) (by decide +kernel), List.mem_of_getElem? (i := 409) (by decide +kernel)⟩
theorem lw_p4 : lw_okq (⟨"DiceLaw$Cursor", "peek", "()I"⟩, 3) := ⟨⟨by decide +kernel, by decide +kernel⟩, List.mem_of_getElem? (i := 56) (by decide +kernel), List.mem_of_getElem? (i := 412) (by decide +kernel), List.mem_of_getElem? (i := 413) (by decide +kernel)⟩
theorem lw_p5 : lw_okq (⟨"DiceLaw$Cursor", "fail", "()V"⟩, 3) := ⟨⟨by decide +kernel, by decide +kernel⟩, List.mem_of_getElem? (i := 56) (by decide +kernel), List.mem_of_getElem? (i := 416) (by decide +kernel), List.mem_of_getElem? (i := 417) (by decide +kernel)⟩
theorem lw_p6 : lw_okq (⟨"DiceLaw$LawReader", "readClause", "()I"⟩, 2) := ⟨⟨by decide +kernel, by decide +kernel⟩, List.mem_of_getElem? (i := 50) (by decide +kernel), List.mem_of_getElem? (i := 420) (by decide +kernel), List.mem_of_getElem? (i := 421) (by decide +kernel)⟩
theorem lw_p7 : lw_okq (⟨"DiceLaw$Cursor", "accept", "(I)Z"⟩, 3) := ⟨⟨by decide +kernel, by decide +kernel⟩, List.mem_of_getElem? (i := 56) (by decide +kernel), List.mem_of_getElem? (i := 424) (by decide +kernel), List.mem_of_getElem? (i := 425) (by decide +kernel)⟩
theorem lw_p8 : lw_okq (⟨"DiceLaw$Cursor", "needOneOf", "(II)I"⟩, 3) := ⟨⟨by decide +kernel, by decide +kernel⟩, List.mem_of_getElem? (i := 56) (by decide +kernel), List.mem_of_getElem? (i := 428) (by decide +kernel), List.mem_of_getElem? (i := 429) (by decide +kernel)⟩
theorem lw_p9 : lw_okq (⟨"DiceLaw$Cursor", "needEnd", "()V"⟩, 3) := ⟨⟨by decide +kernel, by decide +kernel⟩, List.mem_of_getElem? (i := 56) (by decide +kernel), List.mem_of_getElem? (i := 433) (by decide +kernel), List.mem_of_getElem? (i := 434) (by decide +kernel)⟩
theorem lw_p10 : lw_okq (⟨"DiceLaw$RuleReader", "read", "(LDiceLaw$Text;[I)I"⟩, 6) := ⟨⟨by decide +kernel, by decide +kernel⟩, List.mem_of_getElem? (i := 82) (by decide +kernel), List.mem_of_getElem? (i := 437) (by decide +kernel), List.mem_of_getElem? (i := 438) (by decide +kernel)⟩
theorem lw_p11 : lw_okq (⟨"DiceLaw$RuleReader", "readClause", "()V"⟩, 6) := ⟨⟨by decide +kernel, by decide +kernel⟩, List.mem_of_getElem? (i := 82) (by decide +kernel), List.mem_of_getElem? (i := 452) (by decide +kernel), List.mem_of_getElem? (i := 453) (by decide +kernel)⟩
theorem lw_p12 : lw_okq (⟨"DiceLaw$RuleReader", "readSum", "(I)I"⟩, 6) := ⟨⟨by decide +kernel, by decide +kernel⟩, List.mem_of_getElem? (i := 82) (by decide +kernel), List.mem_of_getElem? (i := 458) (by decide +kernel), List.mem_of_getElem? (i := 459) (by decide +kernel)⟩
theorem lw_p13 : lw_okq (⟨"DiceLaw$RuleReader", "readTerm", "(I)I"⟩, 6) := ⟨⟨by decide +kernel, by decide +kernel⟩, List.mem_of_getElem? (i := 82) (by decide +kernel), List.mem_of_getElem? (i := 462) (by decide +kernel), List.mem_of_getElem? (i := 463) (by decide +kernel)⟩
theorem lw_p14 : lw_okq (⟨"DiceLaw$RuleReader", "readAtom", "(I)I"⟩, 6) := ⟨⟨by decide +kernel, by decide +kernel⟩, List.mem_of_getElem? (i := 82) (by decide +kernel), List.mem_of_getElem? (i := 466) (by decide +kernel), List.mem_of_getElem? (i := 467) (by decide +kernel)⟩
theorem lw_p15 : lw_okq (⟨"DiceLaw$RuleReader", "readNumber", "()I"⟩, 6) := ⟨⟨by decide +kernel, by decide +kernel⟩, List.mem_of_getElem? (i := 82) (by decide +kernel), List.mem_of_getElem? (i := 470) (by decide +kernel), List.mem_of_getElem? (i := 471) (by decide +kernel)⟩
def lw_privs_1 : List (MethodName × Nat) := [(⟨"DiceLaw$Text", "append", "(I)V"⟩, 2), (⟨"DiceLaw$LawReader", "read", "(LDiceLaw$Text;)I"⟩, 2), (⟨"DiceLaw$Cursor", "start", "(LDiceLaw$Text;)V"⟩, 3), (⟨"DiceLaw$Cursor", "need", "(I)V"⟩, 3), (⟨"DiceLaw$Cursor", "peek", "()I"⟩, 3), (⟨"DiceLaw$Cursor", "fail", "()V"⟩, 3), (⟨"DiceLaw$LawReader", "readClause", "()I"⟩, 2), (⟨"DiceLaw$Cursor", "accept", "(I)Z"⟩, 3), (⟨"DiceLaw$Cursor", "needOneOf", "(II)I"⟩, 3), (⟨"DiceLaw$Cursor", "needEnd", "()V"⟩, 3), (⟨"DiceLaw$RuleReader", "read", "(LDiceLaw$Text;[I)I"⟩, 6), (⟨"DiceLaw$RuleReader", "readClause", "()V"⟩, 6), (⟨"DiceLaw$RuleReader", "readSum", "(I)I"⟩, 6), (⟨"DiceLaw$RuleReader", "readTerm", "(I)I"⟩, 6), (⟨"DiceLaw$RuleReader", "readAtom", "(I)I"⟩, 6), (⟨"DiceLaw$RuleReader", "readNumber", "()I"⟩, 6)]
theorem lw_r1 : ∀ q ∈ lw_privs_1, lw_okq q := List.forall_mem_cons.mpr ⟨lw_p0, List.forall_mem_cons.mpr ⟨lw_p1, List.forall_mem_cons.mpr ⟨lw_p2, List.forall_mem_cons.mpr ⟨lw_p3, List.forall_mem_cons.mpr ⟨lw_p4, List.forall_mem_cons.mpr ⟨lw_p5, List.forall_mem_cons.mpr ⟨lw_p6, List.forall_mem_cons.mpr ⟨lw_p7, List.forall_mem_cons.mpr ⟨lw_p8, List.forall_mem_cons.mpr ⟨lw_p9, List.forall_mem_cons.mpr ⟨lw_p10, List.forall_mem_cons.mpr ⟨lw_p11, List.forall_mem_cons.mpr ⟨lw_p12, List.forall_mem_cons.mpr ⟨lw_p13, List.forall_mem_cons.mpr ⟨lw_p14, List.forall_mem_cons.mpr ⟨lw_p15, fun _ h => absurd h List.not_mem_nil⟩⟩⟩⟩⟩⟩⟩⟩⟩⟩⟩⟩⟩⟩⟩⟩
theorem lw_p16 : lw_okq (⟨"DiceLaw$Cursor", "here", "()I"⟩, 3) := ⟨⟨by decide +kernel, by decide +kernel⟩, List.mem_of_getElem? (i := 56) (by decide +kernel), List.mem_of_getElem? (i := 474) (by decide +kernel), List.mem_of_getElem? (i := 475) (by decide +kernel)⟩
theorem lw_p17 : lw_okq (⟨"DiceLaw$Cursor", "step", "()V"⟩, 3) := ⟨⟨by decide +kernel, by decide +kernel⟩, List.mem_of_getElem? (i := 56) (by decide +kernel), List.mem_of_getElem? (i := 478) (by decide +kernel), List.mem_of_getElem? (i := 479) (by decide +kernel)⟩
theorem lw_p18 : lw_okq (⟨"DiceLaw$RuleReader", "opens", "(I)Z"⟩, 6) := ⟨⟨by decide +kernel, by decide +kernel⟩, List.mem_of_getElem? (i := 82) (by decide +kernel), List.mem_of_getElem? (i := 482) (by decide +kernel), List.mem_of_getElem? (i := 483) (by decide +kernel)⟩
theorem lw_p19 : lw_okq (⟨"DiceLaw$RuleReader", "readCondition", "(I)Z"⟩, 6) := ⟨⟨by decide +kernel, by decide +kernel⟩, List.mem_of_getElem? (i := 82) (by decide +kernel), List.mem_of_getElem? (i := 506) (by decide +kernel), List.mem_of_getElem? (i := 507) (by decide +kernel)⟩
theorem lw_p20 : lw_okq (⟨"DiceLaw$RuleReader", "readTruth", "(I)Z"⟩, 6) := ⟨⟨by decide +kernel, by decide +kernel⟩, List.mem_of_getElem? (i := 82) (by decide +kernel), List.mem_of_getElem? (i := 510) (by decide +kernel), List.mem_of_getElem? (i := 511) (by decide +kernel)⟩
theorem lw_p21 : lw_okq (⟨"DiceLaw$RuleReader", "readUnit", "(I)Z"⟩, 6) := ⟨⟨by decide +kernel, by decide +kernel⟩, List.mem_of_getElem? (i := 82) (by decide +kernel), List.mem_of_getElem? (i := 514) (by decide +kernel), List.mem_of_getElem? (i := 515) (by decide +kernel)⟩
theorem lw_p22 : lw_okq (⟨"DiceLaw", "takeLaw", "()I"⟩, 16) := ⟨⟨by decide +kernel, by decide +kernel⟩, List.mem_of_getElem? (i := 24) (by decide +kernel), List.mem_of_getElem? (i := 523) (by decide +kernel), List.mem_of_getElem? (i := 524) (by decide +kernel)⟩
theorem lw_p23 : lw_okq (⟨"DiceLaw$Book", "add", "([I)V"⟩, 3) := ⟨⟨by decide +kernel, by decide +kernel⟩, List.mem_of_getElem? (i := 110) (by decide +kernel), List.mem_of_getElem? (i := 527) (by decide +kernel), List.mem_of_getElem? (i := 528) (by decide +kernel)⟩
theorem lw_p24 : lw_okq (⟨"DiceLaw", "takeRule", "()I"⟩, 16) := ⟨⟨by decide +kernel, by decide +kernel⟩, List.mem_of_getElem? (i := 24) (by decide +kernel), List.mem_of_getElem? (i := 533) (by decide +kernel), List.mem_of_getElem? (i := 534) (by decide +kernel)⟩
theorem lw_p25 : lw_okq (⟨"DiceLaw$Text", "take", "(LDiceLaw$Text;)V"⟩, 2) := ⟨⟨by decide +kernel, by decide +kernel⟩, List.mem_of_getElem? (i := 32) (by decide +kernel), List.mem_of_getElem? (i := 537) (by decide +kernel), List.mem_of_getElem? (i := 538) (by decide +kernel)⟩
theorem lw_p26 : lw_okq (⟨"DiceLaw$Book", "has", "(II)Z"⟩, 3) := ⟨⟨by decide +kernel, by decide +kernel⟩, List.mem_of_getElem? (i := 110) (by decide +kernel), List.mem_of_getElem? (i := 546) (by decide +kernel), List.mem_of_getElem? (i := 547) (by decide +kernel)⟩
theorem lw_p27 : lw_okq (⟨"DiceLaw", "isWeighed", "(IIIIII)Z"⟩, 16) := ⟨⟨by decide +kernel, by decide +kernel⟩, List.mem_of_getElem? (i := 24) (by decide +kernel), List.mem_of_getElem? (i := 550) (by decide +kernel), List.mem_of_getElem? (i := 551) (by decide +kernel)⟩
theorem lw_p28 : lw_okq (⟨"DiceLaw$Book", "weightOf", "(II)I"⟩, 3) := ⟨⟨by decide +kernel, by decide +kernel⟩, List.mem_of_getElem? (i := 110) (by decide +kernel), List.mem_of_getElem? (i := 558) (by decide +kernel), List.mem_of_getElem? (i := 559) (by decide +kernel)⟩
theorem lw_p29 : lw_okq (⟨"DiceLaw$Dice", "throwAll", "(LDiceLaw$Book;J)J"⟩, 4) := ⟨⟨by decide +kernel, by decide +kernel⟩, List.mem_of_getElem? (i := 177) (by decide +kernel), List.mem_of_getElem? (i := 577) (by decide +kernel), List.mem_of_getElem? (i := 578) (by decide +kernel)⟩
theorem lw_p30 : lw_okq (⟨"DiceLaw$Dice", "throwOne", "(LDiceLaw$Book;I)V"⟩, 4) := ⟨⟨by decide +kernel, by decide +kernel⟩, List.mem_of_getElem? (i := 177) (by decide +kernel), List.mem_of_getElem? (i := 581) (by decide +kernel), List.mem_of_getElem? (i := 582) (by decide +kernel)⟩
theorem lw_p31 : lw_okq (⟨"DiceLaw$Book", "clauseOf", "(II)I"⟩, 3) := ⟨⟨by decide +kernel, by decide +kernel⟩, List.mem_of_getElem? (i := 110) (by decide +kernel), List.mem_of_getElem? (i := 590) (by decide +kernel), List.mem_of_getElem? (i := 591) (by decide +kernel)⟩
def lw_privs_2 : List (MethodName × Nat) := [(⟨"DiceLaw$Cursor", "here", "()I"⟩, 3), (⟨"DiceLaw$Cursor", "step", "()V"⟩, 3), (⟨"DiceLaw$RuleReader", "opens", "(I)Z"⟩, 6), (⟨"DiceLaw$RuleReader", "readCondition", "(I)Z"⟩, 6), (⟨"DiceLaw$RuleReader", "readTruth", "(I)Z"⟩, 6), (⟨"DiceLaw$RuleReader", "readUnit", "(I)Z"⟩, 6), (⟨"DiceLaw", "takeLaw", "()I"⟩, 16), (⟨"DiceLaw$Book", "add", "([I)V"⟩, 3), (⟨"DiceLaw", "takeRule", "()I"⟩, 16), (⟨"DiceLaw$Text", "take", "(LDiceLaw$Text;)V"⟩, 2), (⟨"DiceLaw$Book", "has", "(II)Z"⟩, 3), (⟨"DiceLaw", "isWeighed", "(IIIIII)Z"⟩, 16), (⟨"DiceLaw$Book", "weightOf", "(II)I"⟩, 3), (⟨"DiceLaw$Dice", "throwAll", "(LDiceLaw$Book;J)J"⟩, 4), (⟨"DiceLaw$Dice", "throwOne", "(LDiceLaw$Book;I)V"⟩, 4), (⟨"DiceLaw$Book", "clauseOf", "(II)I"⟩, 3)]
theorem lw_r2 : ∀ q ∈ lw_privs_2, lw_okq q := List.forall_mem_cons.mpr ⟨lw_p16, List.forall_mem_cons.mpr ⟨lw_p17, List.forall_mem_cons.mpr ⟨lw_p18, List.forall_mem_cons.mpr ⟨lw_p19, List.forall_mem_cons.mpr ⟨lw_p20, List.forall_mem_cons.mpr ⟨lw_p21, List.forall_mem_cons.mpr ⟨lw_p22, List.forall_mem_cons.mpr ⟨lw_p23, List.forall_mem_cons.mpr ⟨lw_p24, List.forall_mem_cons.mpr ⟨lw_p25, List.forall_mem_cons.mpr ⟨lw_p26, List.forall_mem_cons.mpr ⟨lw_p27, List.forall_mem_cons.mpr ⟨lw_p28, List.forall_mem_cons.mpr ⟨lw_p29, List.forall_mem_cons.mpr ⟨lw_p30, List.forall_mem_cons.mpr ⟨lw_p31, fun _ h => absurd h List.not_mem_nil⟩⟩⟩⟩⟩⟩⟩⟩⟩⟩⟩⟩⟩⟩⟩⟩
theorem lw_p32 : lw_okq (⟨"DiceLaw$Diary", "add", "(LDiceLaw$Book;[IIJ)I"⟩, 10) := ⟨⟨by decide +kernel, by decide +kernel⟩, List.mem_of_getElem? (i := 134) (by decide +kernel), List.mem_of_getElem? (i := 601) (by decide +kernel), List.mem_of_getElem? (i := 602) (by decide +kernel)⟩
theorem lw_p33 : lw_okq (⟨"DiceLaw$Diary", "today", "(I)I"⟩, 10) := ⟨⟨by decide +kernel, by decide +kernel⟩, List.mem_of_getElem? (i := 134) (by decide +kernel), List.mem_of_getElem? (i := 608) (by decide +kernel), List.mem_of_getElem? (i := 609) (by decide +kernel)⟩
theorem lw_p34 : lw_okq (⟨"DiceLaw$Diary", "holdingOf", "(II)I"⟩, 10) := ⟨⟨by decide +kernel, by decide +kernel⟩, List.mem_of_getElem? (i := 134) (by decide +kernel), List.mem_of_getElem? (i := 612) (by decide +kernel), List.mem_of_getElem? (i := 613) (by decide +kernel)⟩
theorem lw_p35 : lw_okq (⟨"DiceLaw$Dice", "lay", "(II)Z"⟩, 4) := ⟨⟨by decide +kernel, by decide +kernel⟩, List.mem_of_getElem? (i := 177) (by decide +kernel), List.mem_of_getElem? (i := 630) (by decide +kernel), List.mem_of_getElem? (i := 631) (by decide +kernel)⟩
theorem lw_p36 : lw_okq (⟨"DiceLaw$Diary", "drop", "()I"⟩, 10) := ⟨⟨by decide +kernel, by decide +kernel⟩, List.mem_of_getElem? (i := 134) (by decide +kernel), List.mem_of_getElem? (i := 638) (by decide +kernel), List.mem_of_getElem? (i := 639) (by decide +kernel)⟩
theorem lw_p37 : lw_okq (⟨"DiceLaw$Diary", "has", "(I)Z"⟩, 10) := ⟨⟨by decide +kernel, by decide +kernel⟩, List.mem_of_getElem? (i := 134) (by decide +kernel), List.mem_of_getElem? (i := 655) (by decide +kernel), List.mem_of_getElem? (i := 656) (by decide +kernel)⟩
theorem lw_p38 : lw_okq (⟨"DiceLaw$Diary", "digits", "(I)I"⟩, 10) := ⟨⟨by decide +kernel, by decide +kernel⟩, List.mem_of_getElem? (i := 134) (by decide +kernel), List.mem_of_getElem? (i := 659) (by decide +kernel), List.mem_of_getElem? (i := 660) (by decide +kernel)⟩
theorem lw_p39 : lw_okq (⟨"DiceLaw$Diary", "faceOf", "(II)I"⟩, 10) := ⟨⟨by decide +kernel, by decide +kernel⟩, List.mem_of_getElem? (i := 134) (by decide +kernel), List.mem_of_getElem? (i := 663) (by decide +kernel), List.mem_of_getElem? (i := 664) (by decide +kernel)⟩
theorem lw_p40 : lw_okq (⟨"DiceLaw$Diary", "lawfulOn", "(II)Z"⟩, 10) := ⟨⟨by decide +kernel, by decide +kernel⟩, List.mem_of_getElem? (i := 134) (by decide +kernel), List.mem_of_getElem? (i := 679) (by decide +kernel), List.mem_of_getElem? (i := 680) (by decide +kernel)⟩
theorem lw_p41 : lw_okq (⟨"DiceLaw$Diary", "boundOn", "(II)Z"⟩, 10) := ⟨⟨by decide +kernel, by decide +kernel⟩, List.mem_of_getElem? (i := 134) (by decide +kernel), List.mem_of_getElem? (i := 689) (by decide +kernel), List.mem_of_getElem? (i := 690) (by decide +kernel)⟩
theorem lw_p42 : lw_okq (⟨"DiceLaw$Diary", "by", "(II)I"⟩, 10) := ⟨⟨by decide +kernel, by decide +kernel⟩, List.mem_of_getElem? (i := 134) (by decide +kernel), List.mem_of_getElem? (i := 697) (by decide +kernel), List.mem_of_getElem? (i := 698) (by decide +kernel)⟩
theorem lw_p43 : lw_okq (⟨"DiceLaw", "chance", "(III)J"⟩, 16) := ⟨⟨by decide +kernel, by decide +kernel⟩, List.mem_of_getElem? (i := 24) (by decide +kernel), List.mem_of_getElem? (i := 710) (by decide +kernel), List.mem_of_getElem? (i := 711) (by decide +kernel)⟩
theorem lw_p44 : lw_okq (⟨"DiceLaw$Tomorrow", "load", "(LDiceLaw$Book;LDiceLaw$Diary;)V"⟩, 13) := ⟨⟨by decide +kernel, by decide +kernel⟩, List.mem_of_getElem? (i := 204) (by decide +kernel), List.mem_of_getElem? (i := 714) (by decide +kernel), List.mem_of_getElem? (i := 715) (by decide +kernel)⟩
theorem lw_p45 : lw_okq (⟨"DiceLaw$Tomorrow", "toss", "(Z)V"⟩, 13) := ⟨⟨by decide +kernel, by decide +kernel⟩, List.mem_of_getElem? (i := 204) (by decide +kernel), List.mem_of_getElem? (i := 721) (by decide +kernel), List.mem_of_getElem? (i := 722) (by decide +kernel)⟩
theorem lw_p46 : lw_okq (⟨"DiceLaw$Tomorrow", "sortTypes", "()V"⟩, 13) := ⟨⟨by decide +kernel, by decide +kernel⟩, List.mem_of_getElem? (i := 204) (by decide +kernel), List.mem_of_getElem? (i := 725) (by decide +kernel), List.mem_of_getElem? (i := 726) (by decide +kernel)⟩
theorem lw_p47 : lw_okq (⟨"DiceLaw$Kinds", "empty", "()V"⟩, 3) := ⟨⟨by decide +kernel, by decide +kernel⟩, List.mem_of_getElem? (i := 210) (by decide +kernel), List.mem_of_getElem? (i := 729) (by decide +kernel), List.mem_of_getElem? (i := 730) (by decide +kernel)⟩
def lw_privs_3 : List (MethodName × Nat) := [(⟨"DiceLaw$Diary", "add", "(LDiceLaw$Book;[IIJ)I"⟩, 10), (⟨"DiceLaw$Diary", "today", "(I)I"⟩, 10), (⟨"DiceLaw$Diary", "holdingOf", "(II)I"⟩, 10), (⟨"DiceLaw$Dice", "lay", "(II)Z"⟩, 4), (⟨"DiceLaw$Diary", "drop", "()I"⟩, 10), (⟨"DiceLaw$Diary", "has", "(I)Z"⟩, 10), (⟨"DiceLaw$Diary", "digits", "(I)I"⟩, 10), (⟨"DiceLaw$Diary", "faceOf", "(II)I"⟩, 10), (⟨"DiceLaw$Diary", "lawfulOn", "(II)Z"⟩, 10), (⟨"DiceLaw$Diary", "boundOn", "(II)Z"⟩, 10), (⟨"DiceLaw$Diary", "by", "(II)I"⟩, 10), (⟨"DiceLaw", "chance", "(III)J"⟩, 16), (⟨"DiceLaw$Tomorrow", "load", "(LDiceLaw$Book;LDiceLaw$Diary;)V"⟩, 13), (⟨"DiceLaw$Tomorrow", "toss", "(Z)V"⟩, 13), (⟨"DiceLaw$Tomorrow", "sortTypes", "()V"⟩, 13), (⟨"DiceLaw$Kinds", "empty", "()V"⟩, 3)]
theorem lw_r3 : ∀ q ∈ lw_privs_3, lw_okq q := List.forall_mem_cons.mpr ⟨lw_p32, List.forall_mem_cons.mpr ⟨lw_p33, List.forall_mem_cons.mpr ⟨lw_p34, List.forall_mem_cons.mpr ⟨lw_p35, List.forall_mem_cons.mpr ⟨lw_p36, List.forall_mem_cons.mpr ⟨lw_p37, List.forall_mem_cons.mpr ⟨lw_p38, List.forall_mem_cons.mpr ⟨lw_p39, List.forall_mem_cons.mpr ⟨lw_p40, List.forall_mem_cons.mpr ⟨lw_p41, List.forall_mem_cons.mpr ⟨lw_p42, List.forall_mem_cons.mpr ⟨lw_p43, List.forall_mem_cons.mpr ⟨lw_p44, List.forall_mem_cons.mpr ⟨lw_p45, List.forall_mem_cons.mpr ⟨lw_p46, List.forall_mem_cons.mpr ⟨lw_p47, fun _ h => absurd h List.not_mem_nil⟩⟩⟩⟩⟩⟩⟩⟩⟩⟩⟩⟩⟩⟩⟩⟩
theorem lw_p48 : lw_okq (⟨"DiceLaw$Tomorrow", "lotSign", "(I)I"⟩, 13) := ⟨⟨by decide +kernel, by decide +kernel⟩, List.mem_of_getElem? (i := 204) (by decide +kernel), List.mem_of_getElem? (i := 736) (by decide +kernel), List.mem_of_getElem? (i := 737) (by decide +kernel)⟩
theorem lw_p49 : lw_okq (⟨"DiceLaw$Kinds", "add", "(III)I"⟩, 3) := ⟨⟨by decide +kernel, by decide +kernel⟩, List.mem_of_getElem? (i := 210) (by decide +kernel), List.mem_of_getElem? (i := 743) (by decide +kernel), List.mem_of_getElem? (i := 744) (by decide +kernel)⟩
theorem lw_p50 : lw_okq (⟨"DiceLaw$Kinds", "signOf", "(II)I"⟩, 3) := ⟨⟨by decide +kernel, by decide +kernel⟩, List.mem_of_getElem? (i := 210) (by decide +kernel), List.mem_of_getElem? (i := 748) (by decide +kernel), List.mem_of_getElem? (i := 749) (by decide +kernel)⟩
theorem lw_p51 : lw_okq (⟨"DiceLaw$Kinds", "shareOf", "(II)I"⟩, 3) := ⟨⟨by decide +kernel, by decide +kernel⟩, List.mem_of_getElem? (i := 210) (by decide +kernel), List.mem_of_getElem? (i := 752) (by decide +kernel), List.mem_of_getElem? (i := 753) (by decide +kernel)⟩
theorem lw_p52 : lw_okq (⟨"DiceLaw$Tomorrow", "look", "(IIJ)V"⟩, 13) := ⟨⟨by decide +kernel, by decide +kernel⟩, List.mem_of_getElem? (i := 204) (by decide +kernel), List.mem_of_getElem? (i := 760) (by decide +kernel), List.mem_of_getElem? (i := 761) (by decide +kernel)⟩
theorem lw_p53 : lw_okq (⟨"DiceLaw$Tomorrow", "rest", "(IJ)V"⟩, 13) := ⟨⟨by decide +kernel, by decide +kernel⟩, List.mem_of_getElem? (i := 204) (by decide +kernel), List.mem_of_getElem? (i := 764) (by decide +kernel), List.mem_of_getElem? (i := 765) (by decide +kernel)⟩
theorem lw_p54 : lw_okq (⟨"DiceLaw$Tomorrow", "spread", "(IIJ)V"⟩, 13) := ⟨⟨by decide +kernel, by decide +kernel⟩, List.mem_of_getElem? (i := 204) (by decide +kernel), List.mem_of_getElem? (i := 773) (by decide +kernel), List.mem_of_getElem? (i := 774) (by decide +kernel)⟩
theorem lw_p55 : lw_okq (⟨"DiceLaw$Tomorrow", "throwAgain", "(IIJ)V"⟩, 13) := ⟨⟨by decide +kernel, by decide +kernel⟩, List.mem_of_getElem? (i := 204) (by decide +kernel), List.mem_of_getElem? (i := 779) (by decide +kernel), List.mem_of_getElem? (i := 780) (by decide +kernel)⟩
theorem lw_p56 : lw_okq (⟨"DiceLaw$Chances", "ask", "(III)J"⟩, 15) := ⟨⟨by decide +kernel, by decide +kernel⟩, List.mem_of_getElem? (i := 198) (by decide +kernel), List.mem_of_getElem? (i := 783) (by decide +kernel), List.mem_of_getElem? (i := 784) (by decide +kernel)⟩
theorem lw_p57 : lw_okq (⟨"DiceLaw$Chances", "sortKinds", "()V"⟩, 15) := ⟨⟨by decide +kernel, by decide +kernel⟩, List.mem_of_getElem? (i := 198) (by decide +kernel), List.mem_of_getElem? (i := 788) (by decide +kernel), List.mem_of_getElem? (i := 789) (by decide +kernel)⟩
theorem lw_p58 : lw_okq (⟨"DiceLaw$Tomorrow", "showsOn", "(II)I"⟩, 13) := ⟨⟨by decide +kernel, by decide +kernel⟩, List.mem_of_getElem? (i := 204) (by decide +kernel), List.mem_of_getElem? (i := 794) (by decide +kernel), List.mem_of_getElem? (i := 795) (by decide +kernel)⟩
theorem lw_p59 : lw_okq (⟨"DiceLaw$Chances", "meaning", "(II)I"⟩, 15) := ⟨⟨by decide +kernel, by decide +kernel⟩, List.mem_of_getElem? (i := 198) (by decide +kernel), List.mem_of_getElem? (i := 799) (by decide +kernel), List.mem_of_getElem? (i := 800) (by decide +kernel)⟩
theorem lw_p60 : lw_okq (⟨"DiceLaw$Chances", "bears", "(I)Z"⟩, 15) := ⟨⟨by decide +kernel, by decide +kernel⟩, List.mem_of_getElem? (i := 198) (by decide +kernel), List.mem_of_getElem? (i := 804) (by decide +kernel), List.mem_of_getElem? (i := 805) (by decide +kernel)⟩
theorem lw_p61 : lw_okq (⟨"DiceLaw$Chances", "lay", "(IIJJ)V"⟩, 15) := ⟨⟨by decide +kernel, by decide +kernel⟩, List.mem_of_getElem? (i := 198) (by decide +kernel), List.mem_of_getElem? (i := 810) (by decide +kernel), List.mem_of_getElem? (i := 811) (by decide +kernel)⟩
theorem lw_p62 : lw_okq (⟨"DiceLaw$Chances", "noteFaces", "(J)V"⟩, 15) := ⟨⟨by decide +kernel, by decide +kernel⟩, List.mem_of_getElem? (i := 198) (by decide +kernel), List.mem_of_getElem? (i := 815) (by decide +kernel), List.mem_of_getElem? (i := 816) (by decide +kernel)⟩
theorem lw_p63 : lw_okq (⟨"DiceLaw$Chances", "isMet", "()Z"⟩, 15) := ⟨⟨by decide +kernel, by decide +kernel⟩, List.mem_of_getElem? (i := 198) (by decide +kernel), List.mem_of_getElem? (i := 819) (by decide +kernel), List.mem_of_getElem? (i := 820) (by decide +kernel)⟩
def lw_privs_4 : List (MethodName × Nat) := [(⟨"DiceLaw$Tomorrow", "lotSign", "(I)I"⟩, 13), (⟨"DiceLaw$Kinds", "add", "(III)I"⟩, 3), (⟨"DiceLaw$Kinds", "signOf", "(II)I"⟩, 3), (⟨"DiceLaw$Kinds", "shareOf", "(II)I"⟩, 3), (⟨"DiceLaw$Tomorrow", "look", "(IIJ)V"⟩, 13), (⟨"DiceLaw$Tomorrow", "rest", "(IJ)V"⟩, 13), (⟨"DiceLaw$Tomorrow", "spread", "(IIJ)V"⟩, 13), (⟨"DiceLaw$Tomorrow", "throwAgain", "(IIJ)V"⟩, 13), (⟨"DiceLaw$Chances", "ask", "(III)J"⟩, 15), (⟨"DiceLaw$Chances", "sortKinds", "()V"⟩, 15), (⟨"DiceLaw$Tomorrow", "showsOn", "(II)I"⟩, 13), (⟨"DiceLaw$Chances", "meaning", "(II)I"⟩, 15), (⟨"DiceLaw$Chances", "bears", "(I)Z"⟩, 15), (⟨"DiceLaw$Chances", "lay", "(IIJJ)V"⟩, 15), (⟨"DiceLaw$Chances", "noteFaces", "(J)V"⟩, 15), (⟨"DiceLaw$Chances", "isMet", "()Z"⟩, 15)]
theorem lw_r4 : ∀ q ∈ lw_privs_4, lw_okq q := List.forall_mem_cons.mpr ⟨lw_p48, List.forall_mem_cons.mpr ⟨lw_p49, List.forall_mem_cons.mpr ⟨lw_p50, List.forall_mem_cons.mpr ⟨lw_p51, List.forall_mem_cons.mpr ⟨lw_p52, List.forall_mem_cons.mpr ⟨lw_p53, List.forall_mem_cons.mpr ⟨lw_p54, List.forall_mem_cons.mpr ⟨lw_p55, List.forall_mem_cons.mpr ⟨lw_p56, List.forall_mem_cons.mpr ⟨lw_p57, List.forall_mem_cons.mpr ⟨lw_p58, List.forall_mem_cons.mpr ⟨lw_p59, List.forall_mem_cons.mpr ⟨lw_p60, List.forall_mem_cons.mpr ⟨lw_p61, List.forall_mem_cons.mpr ⟨lw_p62, List.forall_mem_cons.mpr ⟨lw_p63, fun _ h => absurd h List.not_mem_nil⟩⟩⟩⟩⟩⟩⟩⟩⟩⟩⟩⟩⟩⟩⟩⟩
theorem lw_p64 : lw_okq (⟨"DiceLaw$Chances", "note", "(JJ)V"⟩, 15) := ⟨⟨by decide +kernel, by decide +kernel⟩, List.mem_of_getElem? (i := 198) (by decide +kernel), List.mem_of_getElem? (i := 827) (by decide +kernel), List.mem_of_getElem? (i := 828) (by decide +kernel)⟩
theorem lw_p65 : lw_okq (⟨"DiceLaw$Tomorrow", "total", "()J"⟩, 13) := ⟨⟨by decide +kernel, by decide +kernel⟩, List.mem_of_getElem? (i := 204) (by decide +kernel), List.mem_of_getElem? (i := 834) (by decide +kernel), List.mem_of_getElem? (i := 835) (by decide +kernel)⟩
theorem lw_p66 : lw_okq (⟨"DiceLaw", "throwTomorrow", "()V"⟩, 16) := ⟨⟨by decide +kernel, by decide +kernel⟩, List.mem_of_getElem? (i := 24) (by decide +kernel), List.mem_of_getElem? (i := 863) (by decide +kernel), List.mem_of_getElem? (i := 864) (by decide +kernel)⟩
theorem lw_p67 : lw_okq (⟨"DiceLaw", "worthOfWait", "(JIII)J"⟩, 16) := ⟨⟨by decide +kernel, by decide +kernel⟩, List.mem_of_getElem? (i := 24) (by decide +kernel), List.mem_of_getElem? (i := 875) (by decide +kernel), List.mem_of_getElem? (i := 876) (by decide +kernel)⟩
theorem lw_p68 : lw_okq (⟨"DiceLaw$Chances", "metBy", "(II)J"⟩, 15) := ⟨⟨by decide +kernel, by decide +kernel⟩, List.mem_of_getElem? (i := 198) (by decide +kernel), List.mem_of_getElem? (i := 890) (by decide +kernel), List.mem_of_getElem? (i := 891) (by decide +kernel)⟩
theorem lw_p69 : lw_okq (⟨"DiceLaw$Chances", "allBy", "(II)J"⟩, 15) := ⟨⟨by decide +kernel, by decide +kernel⟩, List.mem_of_getElem? (i := 198) (by decide +kernel), List.mem_of_getElem? (i := 894) (by decide +kernel), List.mem_of_getElem? (i := 895) (by decide +kernel)⟩
theorem lw_p70 : lw_okq (⟨"DiceLaw$Diary", "did", "(III)Z"⟩, 10) := ⟨⟨by decide +kernel, by decide +kernel⟩, List.mem_of_getElem? (i := 134) (by decide +kernel), List.mem_of_getElem? (i := 921) (by decide +kernel), List.mem_of_getElem? (i := 922) (by decide +kernel)⟩
theorem lw_p71 : lw_okq (⟨"DiceLaw$Diary", "enter", "(III)I"⟩, 10) := ⟨⟨by decide +kernel, by decide +kernel⟩, List.mem_of_getElem? (i := 134) (by decide +kernel), List.mem_of_getElem? (i := 925) (by decide +kernel), List.mem_of_getElem? (i := 926) (by decide +kernel)⟩
theorem lw_p72 : lw_okq (⟨"DiceLaw$Diary", "breach", "(III)I"⟩, 10) := ⟨⟨by decide +kernel, by decide +kernel⟩, List.mem_of_getElem? (i := 134) (by decide +kernel), List.mem_of_getElem? (i := 933) (by decide +kernel), List.mem_of_getElem? (i := 934) (by decide +kernel)⟩
theorem lw_p73 : lw_okq (⟨"DiceLaw", "isNamed", "(III)Z"⟩, 16) := ⟨⟨by decide +kernel, by decide +kernel⟩, List.mem_of_getElem? (i := 24) (by decide +kernel), List.mem_of_getElem? (i := 956) (by decide +kernel), List.mem_of_getElem? (i := 957) (by decide +kernel)⟩
theorem lw_p74 : lw_okq (⟨"DiceLaw$Tomorrow", "alter", "(III)V"⟩, 13) := ⟨⟨by decide +kernel, by decide +kernel⟩, List.mem_of_getElem? (i := 204) (by decide +kernel), List.mem_of_getElem? (i := 970) (by decide +kernel), List.mem_of_getElem? (i := 971) (by decide +kernel)⟩
theorem lw_p75 : lw_okq (⟨"DiceLaw$Tomorrow", "shift", "(III)V"⟩, 13) := ⟨⟨by decide +kernel, by decide +kernel⟩, List.mem_of_getElem? (i := 204) (by decide +kernel), List.mem_of_getElem? (i := 978) (by decide +kernel), List.mem_of_getElem? (i := 979) (by decide +kernel)⟩
theorem lw_p76 : lw_okq (⟨"DiceLaw", "setLetters", "(III)V"⟩, 16) := ⟨⟨by decide +kernel, by decide +kernel⟩, List.mem_of_getElem? (i := 24) (by decide +kernel), List.mem_of_getElem? (i := 991) (by decide +kernel), List.mem_of_getElem? (i := 992) (by decide +kernel)⟩
theorem lw_p77 : lw_okq (⟨"DiceLaw", "isFollowed", "(ZIII)Z"⟩, 16) := ⟨⟨by decide +kernel, by decide +kernel⟩, List.mem_of_getElem? (i := 24) (by decide +kernel), List.mem_of_getElem? (i := 995) (by decide +kernel), List.mem_of_getElem? (i := 996) (by decide +kernel)⟩
theorem lw_p78 : lw_okq (⟨"DiceLaw$Diary", "isPeaceful", "(I)Z"⟩, 10) := ⟨⟨by decide +kernel, by decide +kernel⟩, List.mem_of_getElem? (i := 134) (by decide +kernel), List.mem_of_getElem? (i := 1008) (by decide +kernel), List.mem_of_getElem? (i := 1009) (by decide +kernel)⟩
theorem lw_p79 : lw_okq (⟨"DiceLaw$Book", "take", "(LDiceLaw$Book;)V"⟩, 3) := ⟨⟨by decide +kernel, by decide +kernel⟩, List.mem_of_getElem? (i := 110) (by decide +kernel), List.mem_of_getElem? (i := 1021) (by decide +kernel), List.mem_of_getElem? (i := 1022) (by decide +kernel)⟩
def lw_privs_5 : List (MethodName × Nat) := [(⟨"DiceLaw$Chances", "note", "(JJ)V"⟩, 15), (⟨"DiceLaw$Tomorrow", "total", "()J"⟩, 13), (⟨"DiceLaw", "throwTomorrow", "()V"⟩, 16), (⟨"DiceLaw", "worthOfWait", "(JIII)J"⟩, 16), (⟨"DiceLaw$Chances", "metBy", "(II)J"⟩, 15), (⟨"DiceLaw$Chances", "allBy", "(II)J"⟩, 15), (⟨"DiceLaw$Diary", "did", "(III)Z"⟩, 10), (⟨"DiceLaw$Diary", "enter", "(III)I"⟩, 10), (⟨"DiceLaw$Diary", "breach", "(III)I"⟩, 10), (⟨"DiceLaw", "isNamed", "(III)Z"⟩, 16), (⟨"DiceLaw$Tomorrow", "alter", "(III)V"⟩, 13), (⟨"DiceLaw$Tomorrow", "shift", "(III)V"⟩, 13), (⟨"DiceLaw", "setLetters", "(III)V"⟩, 16), (⟨"DiceLaw", "isFollowed", "(ZIII)Z"⟩, 16), (⟨"DiceLaw$Diary", "isPeaceful", "(I)Z"⟩, 10), (⟨"DiceLaw$Book", "take", "(LDiceLaw$Book;)V"⟩, 3)]
theorem lw_r5 : ∀ q ∈ lw_privs_5, lw_okq q := List.forall_mem_cons.mpr ⟨lw_p64, List.forall_mem_cons.mpr ⟨lw_p65, List.forall_mem_cons.mpr ⟨lw_p66, List.forall_mem_cons.mpr ⟨lw_p67, List.forall_mem_cons.mpr ⟨lw_p68, List.forall_mem_cons.mpr ⟨lw_p69, List.forall_mem_cons.mpr ⟨lw_p70, List.forall_mem_cons.mpr ⟨lw_p71, List.forall_mem_cons.mpr ⟨lw_p72, List.forall_mem_cons.mpr ⟨lw_p73, List.forall_mem_cons.mpr ⟨lw_p74, List.forall_mem_cons.mpr ⟨lw_p75, List.forall_mem_cons.mpr ⟨lw_p76, List.forall_mem_cons.mpr ⟨lw_p77, List.forall_mem_cons.mpr ⟨lw_p78, List.forall_mem_cons.mpr ⟨lw_p79, fun _ h => absurd h List.not_mem_nil⟩⟩⟩⟩⟩⟩⟩⟩⟩⟩⟩⟩⟩⟩⟩⟩
theorem lw_p80 : lw_okq (⟨"DiceLaw$Diary", "take", "(LDiceLaw$Diary;)V"⟩, 10) := ⟨⟨by decide +kernel, by decide +kernel⟩, List.mem_of_getElem? (i := 134) (by decide +kernel), List.mem_of_getElem? (i := 1026) (by decide +kernel), List.mem_of_getElem? (i := 1027) (by decide +kernel)⟩
theorem lw_p81 : lw_okq (⟨"java/lang/Throwable", "fillInStackTrace", "(I)Ljava/lang/Throwable;"⟩, 6) := ⟨⟨by decide +kernel, by decide +kernel⟩, List.mem_of_getElem? (i := 1083) (by decide +kernel), List.mem_of_getElem? (i := 1081) (by decide +kernel), List.mem_of_getElem? (i := 1082) (by decide +kernel)⟩
theorem lw_p82 : lw_okq (⟨"DiceLawModel", "put", "(I)V"⟩, 53) := ⟨⟨by decide +kernel, by decide +kernel⟩, List.mem_of_getElem? (i := 1114) (by decide +kernel), List.mem_of_getElem? (i := 1294) (by decide +kernel), List.mem_of_getElem? (i := 1295) (by decide +kernel)⟩
theorem lw_p83 : lw_okq (⟨"DiceLawModel", "readLaw", "()V"⟩, 53) := ⟨⟨by decide +kernel, by decide +kernel⟩, List.mem_of_getElem? (i := 1114) (by decide +kernel), List.mem_of_getElem? (i := 1309) (by decide +kernel), List.mem_of_getElem? (i := 1310) (by decide +kernel)⟩
theorem lw_p84 : lw_okq (⟨"DiceLawModel", "opens", "([BII)V"⟩, 53) := ⟨⟨by decide +kernel, by decide +kernel⟩, List.mem_of_getElem? (i := 1114) (by decide +kernel), List.mem_of_getElem? (i := 1313) (by decide +kernel), List.mem_of_getElem? (i := 1314) (by decide +kernel)⟩
theorem lw_p85 : lw_okq (⟨"DiceLawModel", "takes", "(I)Z"⟩, 53) := ⟨⟨by decide +kernel, by decide +kernel⟩, List.mem_of_getElem? (i := 1114) (by decide +kernel), List.mem_of_getElem? (i := 1317) (by decide +kernel), List.mem_of_getElem? (i := 1318) (by decide +kernel)⟩
theorem lw_p86 : lw_okq (⟨"DiceLawModel", "look", "()I"⟩, 53) := ⟨⟨by decide +kernel, by decide +kernel⟩, List.mem_of_getElem? (i := 1114) (by decide +kernel), List.mem_of_getElem? (i := 1321) (by decide +kernel), List.mem_of_getElem? (i := 1322) (by decide +kernel)⟩
theorem lw_p87 : lw_okq (⟨"DiceLawModel", "fails", "()Z"⟩, 53) := ⟨⟨by decide +kernel, by decide +kernel⟩, List.mem_of_getElem? (i := 1114) (by decide +kernel), List.mem_of_getElem? (i := 1325) (by decide +kernel), List.mem_of_getElem? (i := 1326) (by decide +kernel)⟩
theorem lw_p88 : lw_okq (⟨"DiceLawModel", "readClause", "()I"⟩, 53) := ⟨⟨by decide +kernel, by decide +kernel⟩, List.mem_of_getElem? (i := 1114) (by decide +kernel), List.mem_of_getElem? (i := 1329) (by decide +kernel), List.mem_of_getElem? (i := 1330) (by decide +kernel)⟩
theorem lw_p89 : lw_okq (⟨"DiceLawModel", "goThrough", "([BII)V"⟩, 53) := ⟨⟨by decide +kernel, by decide +kernel⟩, List.mem_of_getElem? (i := 1114) (by decide +kernel), List.mem_of_getElem? (i := 1335) (by decide +kernel), List.mem_of_getElem? (i := 1336) (by decide +kernel)⟩
theorem lw_p90 : lw_okq (⟨"DiceLawModel", "ruleClause", "()V"⟩, 53) := ⟨⟨by decide +kernel, by decide +kernel⟩, List.mem_of_getElem? (i := 1114) (by decide +kernel), List.mem_of_getElem? (i := 1339) (by decide +kernel), List.mem_of_getElem? (i := 1340) (by decide +kernel)⟩
theorem lw_p91 : lw_okq (⟨"DiceLawModel", "condition", "(ZI)Z"⟩, 53) := ⟨⟨by decide +kernel, by decide +kernel⟩, List.mem_of_getElem? (i := 1114) (by decide +kernel), List.mem_of_getElem? (i := 1394) (by decide +kernel), List.mem_of_getElem? (i := 1395) (by decide +kernel)⟩
theorem lw_p92 : lw_okq (⟨"DiceLawModel", "part", "(ZI)Z"⟩, 53) := ⟨⟨by decide +kernel, by decide +kernel⟩, List.mem_of_getElem? (i := 1114) (by decide +kernel), List.mem_of_getElem? (i := 1398) (by decide +kernel), List.mem_of_getElem? (i := 1399) (by decide +kernel)⟩
theorem lw_p93 : lw_okq (⟨"DiceLawModel", "compares", "(ZI)Z"⟩, 53) := ⟨⟨by decide +kernel, by decide +kernel⟩, List.mem_of_getElem? (i := 1114) (by decide +kernel), List.mem_of_getElem? (i := 1402) (by decide +kernel), List.mem_of_getElem? (i := 1403) (by decide +kernel)⟩
theorem lw_p94 : lw_okq (⟨"DiceLawModel", "sum", "()I"⟩, 53) := ⟨⟨by decide +kernel, by decide +kernel⟩, List.mem_of_getElem? (i := 1114) (by decide +kernel), List.mem_of_getElem? (i := 1406) (by decide +kernel), List.mem_of_getElem? (i := 1407) (by decide +kernel)⟩
theorem lw_p95 : lw_okq (⟨"DiceLawModel", "term", "()I"⟩, 53) := ⟨⟨by decide +kernel, by decide +kernel⟩, List.mem_of_getElem? (i := 1114) (by decide +kernel), List.mem_of_getElem? (i := 1410) (by decide +kernel), List.mem_of_getElem? (i := 1411) (by decide +kernel)⟩
def lw_privs_6 : List (MethodName × Nat) := [(⟨"DiceLaw$Diary", "take", "(LDiceLaw$Diary;)V"⟩, 10), (⟨"java/lang/Throwable", "fillInStackTrace", "(I)Ljava/lang/Throwable;"⟩, 6), (⟨"DiceLawModel", "put", "(I)V"⟩, 53), (⟨"DiceLawModel", "readLaw", "()V"⟩, 53), (⟨"DiceLawModel", "opens", "([BII)V"⟩, 53), (⟨"DiceLawModel", "takes", "(I)Z"⟩, 53), (⟨"DiceLawModel", "look", "()I"⟩, 53), (⟨"DiceLawModel", "fails", "()Z"⟩, 53), (⟨"DiceLawModel", "readClause", "()I"⟩, 53), (⟨"DiceLawModel", "goThrough", "([BII)V"⟩, 53), (⟨"DiceLawModel", "ruleClause", "()V"⟩, 53), (⟨"DiceLawModel", "condition", "(ZI)Z"⟩, 53), (⟨"DiceLawModel", "part", "(ZI)Z"⟩, 53), (⟨"DiceLawModel", "compares", "(ZI)Z"⟩, 53), (⟨"DiceLawModel", "sum", "()I"⟩, 53), (⟨"DiceLawModel", "term", "()I"⟩, 53)]
theorem lw_r6 : ∀ q ∈ lw_privs_6, lw_okq q := List.forall_mem_cons.mpr ⟨lw_p80, List.forall_mem_cons.mpr ⟨lw_p81, List.forall_mem_cons.mpr ⟨lw_p82, List.forall_mem_cons.mpr ⟨lw_p83, List.forall_mem_cons.mpr ⟨lw_p84, List.forall_mem_cons.mpr ⟨lw_p85, List.forall_mem_cons.mpr ⟨lw_p86, List.forall_mem_cons.mpr ⟨lw_p87, List.forall_mem_cons.mpr ⟨lw_p88, List.forall_mem_cons.mpr ⟨lw_p89, List.forall_mem_cons.mpr ⟨lw_p90, List.forall_mem_cons.mpr ⟨lw_p91, List.forall_mem_cons.mpr ⟨lw_p92, List.forall_mem_cons.mpr ⟨lw_p93, List.forall_mem_cons.mpr ⟨lw_p94, List.forall_mem_cons.mpr ⟨lw_p95, fun _ h => absurd h List.not_mem_nil⟩⟩⟩⟩⟩⟩⟩⟩⟩⟩⟩⟩⟩⟩⟩⟩
theorem lw_p96 : lw_okq (⟨"DiceLawModel", "atom", "()I"⟩, 53) := ⟨⟨by decide +kernel, by decide +kernel⟩, List.mem_of_getElem? (i := 1114) (by decide +kernel), List.mem_of_getElem? (i := 1414) (by decide +kernel), List.mem_of_getElem? (i := 1415) (by decide +kernel)⟩
theorem lw_p97 : lw_okq (⟨"DiceLawModel", "goesIn", "()Z"⟩, 53) := ⟨⟨by decide +kernel, by decide +kernel⟩, List.mem_of_getElem? (i := 1114) (by decide +kernel), List.mem_of_getElem? (i := 1418) (by decide +kernel), List.mem_of_getElem? (i := 1419) (by decide +kernel)⟩
theorem lw_p98 : lw_okq (⟨"DiceLawModel", "isDigit", "()Z"⟩, 53) := ⟨⟨by decide +kernel, by decide +kernel⟩, List.mem_of_getElem? (i := 1114) (by decide +kernel), List.mem_of_getElem? (i := 1422) (by decide +kernel), List.mem_of_getElem? (i := 1423) (by decide +kernel)⟩
theorem lw_p99 : lw_okq (⟨"DiceLawModel", "unit", "()Z"⟩, 53) := ⟨⟨by decide +kernel, by decide +kernel⟩, List.mem_of_getElem? (i := 1114) (by decide +kernel), List.mem_of_getElem? (i := 1436) (by decide +kernel), List.mem_of_getElem? (i := 1437) (by decide +kernel)⟩
theorem lw_p100 : lw_okq (⟨"DiceLawModel", "isLaw", "(I)Z"⟩, 53) := ⟨⟨by decide +kernel, by decide +kernel⟩, List.mem_of_getElem? (i := 1114) (by decide +kernel), List.mem_of_getElem? (i := 1449) (by decide +kernel), List.mem_of_getElem? (i := 1450) (by decide +kernel)⟩
theorem lw_p101 : lw_okq (⟨"DiceLawModel", "throwDie", "(I)V"⟩, 53) := ⟨⟨by decide +kernel, by decide +kernel⟩, List.mem_of_getElem? (i := 1114) (by decide +kernel), List.mem_of_getElem? (i := 1490) (by decide +kernel), List.mem_of_getElem? (i := 1491) (by decide +kernel)⟩
theorem lw_p102 : lw_okq (⟨"DiceLawModel", "thrower", "()I"⟩, 53) := ⟨⟨by decide +kernel, by decide +kernel⟩, List.mem_of_getElem? (i := 1114) (by decide +kernel), List.mem_of_getElem? (i := 1497) (by decide +kernel), List.mem_of_getElem? (i := 1498) (by decide +kernel)⟩
theorem lw_p103 : lw_okq (⟨"DiceLawModel", "shown", "(I)I"⟩, 53) := ⟨⟨by decide +kernel, by decide +kernel⟩, List.mem_of_getElem? (i := 1114) (by decide +kernel), List.mem_of_getElem? (i := 1501) (by decide +kernel), List.mem_of_getElem? (i := 1502) (by decide +kernel)⟩
theorem lw_p104 : lw_okq (⟨"DiceLawModel", "keepDawn", "(IJ)I"⟩, 53) := ⟨⟨by decide +kernel, by decide +kernel⟩, List.mem_of_getElem? (i := 1114) (by decide +kernel), List.mem_of_getElem? (i := 1505) (by decide +kernel), List.mem_of_getElem? (i := 1506) (by decide +kernel)⟩
theorem lw_p105 : lw_okq (⟨"DiceLawModel", "layHolds", "()V"⟩, 53) := ⟨⟨by decide +kernel, by decide +kernel⟩, List.mem_of_getElem? (i := 1114) (by decide +kernel), List.mem_of_getElem? (i := 1509) (by decide +kernel), List.mem_of_getElem? (i := 1510) (by decide +kernel)⟩
theorem lw_p106 : lw_okq (⟨"DiceLawModel", "holdOf", "(I)I"⟩, 53) := ⟨⟨by decide +kernel, by decide +kernel⟩, List.mem_of_getElem? (i := 1114) (by decide +kernel), List.mem_of_getElem? (i := 1513) (by decide +kernel), List.mem_of_getElem? (i := 1514) (by decide +kernel)⟩
theorem lw_p107 : lw_okq (⟨"DiceLawModel", "heldYesterday", "(I)I"⟩, 53) := ⟨⟨by decide +kernel, by decide +kernel⟩, List.mem_of_getElem? (i := 1114) (by decide +kernel), List.mem_of_getElem? (i := 1517) (by decide +kernel), List.mem_of_getElem? (i := 1518) (by decide +kernel)⟩
theorem lw_p108 : lw_okq (⟨"DiceLawModel", "isDay", "(I)Z"⟩, 53) := ⟨⟨by decide +kernel, by decide +kernel⟩, List.mem_of_getElem? (i := 1114) (by decide +kernel), List.mem_of_getElem? (i := 1533) (by decide +kernel), List.mem_of_getElem? (i := 1534) (by decide +kernel)⟩
theorem lw_p109 : lw_okq (⟨"DiceLawModel", "isLawful", "(II)Z"⟩, 53) := ⟨⟨by decide +kernel, by decide +kernel⟩, List.mem_of_getElem? (i := 1114) (by decide +kernel), List.mem_of_getElem? (i := 1548) (by decide +kernel), List.mem_of_getElem? (i := 1549) (by decide +kernel)⟩
theorem lw_p110 : lw_okq (⟨"DiceLawModel", "isLawfulBy", "([III)Z"⟩, 53) := ⟨⟨by decide +kernel, by decide +kernel⟩, List.mem_of_getElem? (i := 1114) (by decide +kernel), List.mem_of_getElem? (i := 1552) (by decide +kernel), List.mem_of_getElem? (i := 1553) (by decide +kernel)⟩
theorem lw_p111 : lw_okq (⟨"DiceLawModel", "counts", "([III)I"⟩, 53) := ⟨⟨by decide +kernel, by decide +kernel⟩, List.mem_of_getElem? (i := 1114) (by decide +kernel), List.mem_of_getElem? (i := 1556) (by decide +kernel), List.mem_of_getElem? (i := 1557) (by decide +kernel)⟩
def lw_privs_7 : List (MethodName × Nat) := [(⟨"DiceLawModel", "atom", "()I"⟩, 53), (⟨"DiceLawModel", "goesIn", "()Z"⟩, 53), (⟨"DiceLawModel", "isDigit", "()Z"⟩, 53), (⟨"DiceLawModel", "unit", "()Z"⟩, 53), (⟨"DiceLawModel", "isLaw", "(I)Z"⟩, 53), (⟨"DiceLawModel", "throwDie", "(I)V"⟩, 53), (⟨"DiceLawModel", "thrower", "()I"⟩, 53), (⟨"DiceLawModel", "shown", "(I)I"⟩, 53), (⟨"DiceLawModel", "keepDawn", "(IJ)I"⟩, 53), (⟨"DiceLawModel", "layHolds", "()V"⟩, 53), (⟨"DiceLawModel", "holdOf", "(I)I"⟩, 53), (⟨"DiceLawModel", "heldYesterday", "(I)I"⟩, 53), (⟨"DiceLawModel", "isDay", "(I)Z"⟩, 53), (⟨"DiceLawModel", "isLawful", "(II)Z"⟩, 53), (⟨"DiceLawModel", "isLawfulBy", "([III)Z"⟩, 53), (⟨"DiceLawModel", "counts", "([III)I"⟩, 53)]
theorem lw_r7 : ∀ q ∈ lw_privs_7, lw_okq q := List.forall_mem_cons.mpr ⟨lw_p96, List.forall_mem_cons.mpr ⟨lw_p97, List.forall_mem_cons.mpr ⟨lw_p98, List.forall_mem_cons.mpr ⟨lw_p99, List.forall_mem_cons.mpr ⟨lw_p100, List.forall_mem_cons.mpr ⟨lw_p101, List.forall_mem_cons.mpr ⟨lw_p102, List.forall_mem_cons.mpr ⟨lw_p103, List.forall_mem_cons.mpr ⟨lw_p104, List.forall_mem_cons.mpr ⟨lw_p105, List.forall_mem_cons.mpr ⟨lw_p106, List.forall_mem_cons.mpr ⟨lw_p107, List.forall_mem_cons.mpr ⟨lw_p108, List.forall_mem_cons.mpr ⟨lw_p109, List.forall_mem_cons.mpr ⟨lw_p110, List.forall_mem_cons.mpr ⟨lw_p111, fun _ h => absurd h List.not_mem_nil⟩⟩⟩⟩⟩⟩⟩⟩⟩⟩⟩⟩⟩⟩⟩⟩
theorem lw_p112 : lw_okq (⟨"DiceLawModel", "isDue", "(II)Z"⟩, 53) := ⟨⟨by decide +kernel, by decide +kernel⟩, List.mem_of_getElem? (i := 1114) (by decide +kernel), List.mem_of_getElem? (i := 1563) (by decide +kernel), List.mem_of_getElem? (i := 1564) (by decide +kernel)⟩
theorem lw_p113 : lw_okq (⟨"DiceLawModel", "isMustBy", "([III)Z"⟩, 53) := ⟨⟨by decide +kernel, by decide +kernel⟩, List.mem_of_getElem? (i := 1114) (by decide +kernel), List.mem_of_getElem? (i := 1567) (by decide +kernel), List.mem_of_getElem? (i := 1568) (by decide +kernel)⟩
theorem lw_p114 : lw_okq (⟨"DiceLawModel", "isPart", "(I)Z"⟩, 53) := ⟨⟨by decide +kernel, by decide +kernel⟩, List.mem_of_getElem? (i := 1114) (by decide +kernel), List.mem_of_getElem? (i := 1575) (by decide +kernel), List.mem_of_getElem? (i := 1576) (by decide +kernel)⟩
theorem lw_p115 : lw_okq (⟨"DiceLawModel", "tallyOf", "(III)J"⟩, 53) := ⟨⟨by decide +kernel, by decide +kernel⟩, List.mem_of_getElem? (i := 1114) (by decide +kernel), List.mem_of_getElem? (i := 1580) (by decide +kernel), List.mem_of_getElem? (i := 1581) (by decide +kernel)⟩
theorem lw_p116 : lw_okq (⟨"DiceLawModel", "throwAll", "(IJ)V"⟩, 53) := ⟨⟨by decide +kernel, by decide +kernel⟩, List.mem_of_getElem? (i := 1114) (by decide +kernel), List.mem_of_getElem? (i := 1584) (by decide +kernel), List.mem_of_getElem? (i := 1585) (by decide +kernel)⟩
theorem lw_p117 : lw_okq (⟨"DiceLawModel", "fall", "(IJ)V"⟩, 53) := ⟨⟨by decide +kernel, by decide +kernel⟩, List.mem_of_getElem? (i := 1114) (by decide +kernel), List.mem_of_getElem? (i := 1588) (by decide +kernel), List.mem_of_getElem? (i := 1589) (by decide +kernel)⟩
theorem lw_p118 : lw_okq (⟨"DiceLawModel", "isSo", "(I)Z"⟩, 53) := ⟨⟨by decide +kernel, by decide +kernel⟩, List.mem_of_getElem? (i := 1114) (by decide +kernel), List.mem_of_getElem? (i := 1592) (by decide +kernel), List.mem_of_getElem? (i := 1593) (by decide +kernel)⟩
theorem lw_p119 : lw_okq (⟨"DiceLawModel", "facesNow", "()I"⟩, 53) := ⟨⟨by decide +kernel, by decide +kernel⟩, List.mem_of_getElem? (i := 1114) (by decide +kernel), List.mem_of_getElem? (i := 1596) (by decide +kernel), List.mem_of_getElem? (i := 1597) (by decide +kernel)⟩
theorem lw_p120 : lw_okq (⟨"DiceLawModel", "partOf", "(JI)J"⟩, 53) := ⟨⟨by decide +kernel, by decide +kernel⟩, List.mem_of_getElem? (i := 1114) (by decide +kernel), List.mem_of_getElem? (i := 1600) (by decide +kernel), List.mem_of_getElem? (i := 1601) (by decide +kernel)⟩
theorem lw_p121 : lw_okq (⟨"DiceLawModel", "whole", "()J"⟩, 53) := ⟨⟨by decide +kernel, by decide +kernel⟩, List.mem_of_getElem? (i := 1114) (by decide +kernel), List.mem_of_getElem? (i := 1604) (by decide +kernel), List.mem_of_getElem? (i := 1605) (by decide +kernel)⟩
theorem lw_p122 : lw_okq (⟨"DiceLawModel", "isWait", "(II)Z"⟩, 53) := ⟨⟨by decide +kernel, by decide +kernel⟩, List.mem_of_getElem? (i := 1114) (by decide +kernel), List.mem_of_getElem? (i := 1636) (by decide +kernel), List.mem_of_getElem? (i := 1637) (by decide +kernel)⟩
theorem lw_p123 : lw_okq (⟨"DiceLawModel", "did", "(III)Z"⟩, 53) := ⟨⟨by decide +kernel, by decide +kernel⟩, List.mem_of_getElem? (i := 1114) (by decide +kernel), List.mem_of_getElem? (i := 1656) (by decide +kernel), List.mem_of_getElem? (i := 1657) (by decide +kernel)⟩
theorem lw_p124 : lw_okq (⟨"DiceLawModel", "isDoubt", "(II)Z"⟩, 53) := ⟨⟨by decide +kernel, by decide +kernel⟩, List.mem_of_getElem? (i := 1114) (by decide +kernel), List.mem_of_getElem? (i := 1668) (by decide +kernel), List.mem_of_getElem? (i := 1669) (by decide +kernel)⟩
theorem lw_p125 : lw_okq (⟨"DiceLawModel", "isNamed", "(III)Z"⟩, 53) := ⟨⟨by decide +kernel, by decide +kernel⟩, List.mem_of_getElem? (i := 1114) (by decide +kernel), List.mem_of_getElem? (i := 1674) (by decide +kernel), List.mem_of_getElem? (i := 1675) (by decide +kernel)⟩
theorem lw_p126 : lw_okq (⟨"DiceLawModel", "amendedBy", "(IIIIJ)J"⟩, 53) := ⟨⟨by decide +kernel, by decide +kernel⟩, List.mem_of_getElem? (i := 1114) (by decide +kernel), List.mem_of_getElem? (i := 1686) (by decide +kernel), List.mem_of_getElem? (i := 1687) (by decide +kernel)⟩
theorem lw_p127 : lw_okq (⟨"DiceLawModel", "lawfulGiven", "(III)J"⟩, 53) := ⟨⟨by decide +kernel, by decide +kernel⟩, List.mem_of_getElem? (i := 1114) (by decide +kernel), List.mem_of_getElem? (i := 1702) (by decide +kernel), List.mem_of_getElem? (i := 1703) (by decide +kernel)⟩
def lw_privs_8 : List (MethodName × Nat) := [(⟨"DiceLawModel", "isDue", "(II)Z"⟩, 53), (⟨"DiceLawModel", "isMustBy", "([III)Z"⟩, 53), (⟨"DiceLawModel", "isPart", "(I)Z"⟩, 53), (⟨"DiceLawModel", "tallyOf", "(III)J"⟩, 53), (⟨"DiceLawModel", "throwAll", "(IJ)V"⟩, 53), (⟨"DiceLawModel", "fall", "(IJ)V"⟩, 53), (⟨"DiceLawModel", "isSo", "(I)Z"⟩, 53), (⟨"DiceLawModel", "facesNow", "()I"⟩, 53), (⟨"DiceLawModel", "partOf", "(JI)J"⟩, 53), (⟨"DiceLawModel", "whole", "()J"⟩, 53), (⟨"DiceLawModel", "isWait", "(II)Z"⟩, 53), (⟨"DiceLawModel", "did", "(III)Z"⟩, 53), (⟨"DiceLawModel", "isDoubt", "(II)Z"⟩, 53), (⟨"DiceLawModel", "isNamed", "(III)Z"⟩, 53), (⟨"DiceLawModel", "amendedBy", "(IIIIJ)J"⟩, 53), (⟨"DiceLawModel", "lawfulGiven", "(III)J"⟩, 53)]
theorem lw_r8 : ∀ q ∈ lw_privs_8, lw_okq q := List.forall_mem_cons.mpr ⟨lw_p112, List.forall_mem_cons.mpr ⟨lw_p113, List.forall_mem_cons.mpr ⟨lw_p114, List.forall_mem_cons.mpr ⟨lw_p115, List.forall_mem_cons.mpr ⟨lw_p116, List.forall_mem_cons.mpr ⟨lw_p117, List.forall_mem_cons.mpr ⟨lw_p118, List.forall_mem_cons.mpr ⟨lw_p119, List.forall_mem_cons.mpr ⟨lw_p120, List.forall_mem_cons.mpr ⟨lw_p121, List.forall_mem_cons.mpr ⟨lw_p122, List.forall_mem_cons.mpr ⟨lw_p123, List.forall_mem_cons.mpr ⟨lw_p124, List.forall_mem_cons.mpr ⟨lw_p125, List.forall_mem_cons.mpr ⟨lw_p126, List.forall_mem_cons.mpr ⟨lw_p127, fun _ h => absurd h List.not_mem_nil⟩⟩⟩⟩⟩⟩⟩⟩⟩⟩⟩⟩⟩⟩⟩⟩
theorem lw_p128 : lw_okq (⟨"DiceLawModel", "layWays", "()V"⟩, 53) := ⟨⟨by decide +kernel, by decide +kernel⟩, List.mem_of_getElem? (i := 1114) (by decide +kernel), List.mem_of_getElem? (i := 1714) (by decide +kernel), List.mem_of_getElem? (i := 1715) (by decide +kernel)⟩
theorem lw_p129 : lw_okq (⟨"DiceLawModel", "isPeace", "(I)Z"⟩, 53) := ⟨⟨by decide +kernel, by decide +kernel⟩, List.mem_of_getElem? (i := 1114) (by decide +kernel), List.mem_of_getElem? (i := 1739) (by decide +kernel), List.mem_of_getElem? (i := 1740) (by decide +kernel)⟩
theorem lw_p130 : lw_okq (⟨"DiceLawModel", "keep", "([I)V"⟩, 53) := ⟨⟨by decide +kernel, by decide +kernel⟩, List.mem_of_getElem? (i := 1114) (by decide +kernel), List.mem_of_getElem? (i := 1755) (by decide +kernel), List.mem_of_getElem? (i := 1756) (by decide +kernel)⟩
theorem lw_p131 : lw_okq (⟨"DiceLawModel", "bring", "([I)V"⟩, 53) := ⟨⟨by decide +kernel, by decide +kernel⟩, List.mem_of_getElem? (i := 1114) (by decide +kernel), List.mem_of_getElem? (i := 1763) (by decide +kernel), List.mem_of_getElem? (i := 1764) (by decide +kernel)⟩
def lw_privs_9 : List (MethodName × Nat) := [(⟨"DiceLawModel", "layWays", "()V"⟩, 53), (⟨"DiceLawModel", "isPeace", "(I)Z"⟩, 53), (⟨"DiceLawModel", "keep", "([I)V"⟩, 53), (⟨"DiceLawModel", "bring", "([I)V"⟩, 53)]
theorem lw_r9 : ∀ q ∈ lw_privs_9, lw_okq q := List.forall_mem_cons.mpr ⟨lw_p128, List.forall_mem_cons.mpr ⟨lw_p129, List.forall_mem_cons.mpr ⟨lw_p130, List.forall_mem_cons.mpr ⟨lw_p131, fun _ h => absurd h List.not_mem_nil⟩⟩⟩⟩
def lw_privs : List (MethodName × Nat) := lw_privs_1 ++ (lw_privs_2 ++ (lw_privs_3 ++ (lw_privs_4 ++ (lw_privs_5 ++ (lw_privs_6 ++ (lw_privs_7 ++ (lw_privs_8 ++ (lw_privs_9))))))))
def lw_tbl : List Cond := k2_sels lw_privs ++ tables_1
theorem lw_privs_ok : ∀ q ∈ lw_privs, lw_okq q := by
  show ∀ q ∈ lw_privs_1 ++ (lw_privs_2 ++ (lw_privs_3 ++ (lw_privs_4 ++ (lw_privs_5 ++ (lw_privs_6 ++ (lw_privs_7 ++ (lw_privs_8 ++ (lw_privs_9)))))))), lw_okq q
  exact List.forall_mem_append.mpr ⟨lw_r1, List.forall_mem_append.mpr ⟨lw_r2, List.forall_mem_append.mpr ⟨lw_r3, List.forall_mem_append.mpr ⟨lw_r4, List.forall_mem_append.mpr ⟨lw_r5, List.forall_mem_append.mpr ⟨lw_r6, List.forall_mem_append.mpr ⟨lw_r7, List.forall_mem_append.mpr ⟨lw_r8, lw_r9⟩⟩⟩⟩⟩⟩⟩⟩
def RX0 : String := "DiceLaw$Book"
def TX0 : u_T := fun k => match k with
  | 0 => ("DiceLaw$Book", "laws", "I", false)
  | 1 => ("DiceLaw$Book", "clauses", "[I", true)
  | _ => ("DiceLaw$Book", "weights", "[I", true)
def tyX0 : Nat → FieldType := fun k => match k with
  | 0 => .int
  | 1 => .array .int
  | _ => .array .int
abbrev wsX00 : List Cond := u_ws RX0 TX0 3
theorem nmX0 : ∀ a, a < 3 → ∀ b, b < 3 → a ≠ b → (TX0 a).2.1 ≠ (TX0 b).2.1 := by decide +kernel
theorem tyX0_ok : ∀ k, k < 3 → parseFieldDescriptor (TX0 k).2.2.1 = some (tyX0 k) := by decide +kernel
abbrev cX0_init : ByteArray := prog_2_method_1_code
def yX0_init : MethodName := ⟨RX0, "<init>", "()V"⟩
abbrev cX0_add : ByteArray := prog_2_method_2_code
def yX0_add : MethodName := ⟨RX0, "add", "([I)V"⟩
abbrev cX0_has : ByteArray := prog_2_method_3_code
def yX0_has : MethodName := ⟨RX0, "has", "(II)Z"⟩
abbrev cX0_clauseOf : ByteArray := prog_2_method_4_code
def yX0_clauseOf : MethodName := ⟨RX0, "clauseOf", "(II)I"⟩
abbrev cX0_weightOf : ByteArray := prog_2_method_5_code
def yX0_weightOf : MethodName := ⟨RX0, "weightOf", "(II)I"⟩
abbrev cX0_take : ByteArray := prog_2_method_6_code
def yX0_take : MethodName := ⟨RX0, "take", "(LDiceLaw$Book;)V"⟩
def RX1 : String := "DiceLaw$Chances"
def TX1 : u_T := fun k => match k with
  | 0 => ("DiceLaw$Chances", "tomorrow", "LDiceLaw$Tomorrow;", true)
  | 1 => ("DiceLaw$Chances", "kinds", "LDiceLaw$Kinds;", true)
  | 2 => ("DiceLaw$Chances", "kindOf", "[I", true)
  | 3 => ("DiceLaw$Chances", "lotOf", "[I", true)
  | 4 => ("DiceLaw$Chances", "lies", "[I", true)
  | 5 => ("DiceLaw$Chances", "shows", "[I", true)
  | 6 => ("DiceLaw$Chances", "holding", "[I", true)
  | 7 => ("DiceLaw$Chances", "allOf", "[J", true)
  | 8 => ("DiceLaw$Chances", "metOf", "[J", true)
  | 9 => ("DiceLaw$Chances", "sort", "I", false)
  | 10 => ("DiceLaw$Chances", "one", "I", false)
  | 11 => ("DiceLaw$Chances", "other", "I", false)
  | 12 => ("DiceLaw$Chances", "met", "J", false)
  | 13 => ("DiceLaw$Chances", "most", "J", false)
  | _ => ("DiceLaw$Chances", "mostFaces", "I", false)
def tyX1 : Nat → FieldType := fun k => match k with
  | 0 => .object "DiceLaw$Tomorrow"
  | 1 => .object "DiceLaw$Kinds"
  | 2 => .array .int
  | 3 => .array .int
  | 4 => .array .int
  | 5 => .array .int
  | 6 => .array .int
  | 7 => .array .long
  | 8 => .array .long
  | 9 => .int
  | 10 => .int
  | 11 => .int
  | 12 => .long
  | 13 => .long
  | _ => .int
abbrev wsX10 : List Cond := u_ws RX1 TX1 15
theorem nmX1 : ∀ a, a < 15 → ∀ b, b < 15 → a ≠ b → (TX1 a).2.1 ≠ (TX1 b).2.1 := by decide +kernel
theorem tyX1_ok : ∀ k, k < 15 → parseFieldDescriptor (TX1 k).2.2.1 = some (tyX1 k) := by decide +kernel
abbrev cX1_init : ByteArray := prog_3_method_1_code
def yX1_init : MethodName := ⟨RX1, "<init>", "()V"⟩
abbrev cX1_ask : ByteArray := prog_3_method_2_code
def yX1_ask : MethodName := ⟨RX1, "ask", "(III)J"⟩
abbrev cX1_sortKinds : ByteArray := prog_3_method_3_code
def yX1_sortKinds : MethodName := ⟨RX1, "sortKinds", "()V"⟩
abbrev cX1_meaning : ByteArray := prog_3_method_4_code
def yX1_meaning : MethodName := ⟨RX1, "meaning", "(II)I"⟩
abbrev cX1_bears : ByteArray := prog_3_method_5_code
def yX1_bears : MethodName := ⟨RX1, "bears", "(I)Z"⟩
abbrev cX1_lay : ByteArray := prog_3_method_6_code
def yX1_lay : MethodName := ⟨RX1, "lay", "(IIJJ)V"⟩
abbrev cX1_note : ByteArray := prog_3_method_7_code
def yX1_note : MethodName := ⟨RX1, "note", "(JJ)V"⟩
abbrev cX1_noteFaces : ByteArray := prog_3_method_8_code
def yX1_noteFaces : MethodName := ⟨RX1, "noteFaces", "(J)V"⟩
abbrev cX1_isMet : ByteArray := prog_3_method_9_code
def yX1_isMet : MethodName := ⟨RX1, "isMet", "()Z"⟩
abbrev cX1_allBy : ByteArray := prog_3_method_10_code
def yX1_allBy : MethodName := ⟨RX1, "allBy", "(II)J"⟩
abbrev cX1_metBy : ByteArray := prog_3_method_11_code
def yX1_metBy : MethodName := ⟨RX1, "metBy", "(II)J"⟩
def RX2 : String := "DiceLaw$Cursor"
def TX2 : u_T := fun k => match k with
  | 0 => ("DiceLaw$Cursor", "text", "LDiceLaw$Text;", false)
  | 1 => ("DiceLaw$Cursor", "place", "I", false)
  | _ => ("DiceLaw$Cursor", "fault", "I", false)
def tyX2 : Nat → FieldType := fun k => match k with
  | 0 => .object "DiceLaw$Text"
  | 1 => .int
  | _ => .int
abbrev wsX20 : List Cond := u_ws RX2 TX2 3
theorem nmX2 : ∀ a, a < 3 → ∀ b, b < 3 → a ≠ b → (TX2 a).2.1 ≠ (TX2 b).2.1 := by decide +kernel
theorem tyX2_ok : ∀ k, k < 3 → parseFieldDescriptor (TX2 k).2.2.1 = some (tyX2 k) := by decide +kernel
abbrev cX2_init : ByteArray := prog_4_method_1_code
def yX2_init : MethodName := ⟨RX2, "<init>", "()V"⟩
abbrev cX2_start : ByteArray := prog_4_method_2_code
def yX2_start : MethodName := ⟨RX2, "start", "(LDiceLaw$Text;)V"⟩
abbrev cX2_peek : ByteArray := prog_4_method_3_code
def yX2_peek : MethodName := ⟨RX2, "peek", "()I"⟩
abbrev cX2_here : ByteArray := prog_4_method_4_code
def yX2_here : MethodName := ⟨RX2, "here", "()I"⟩
abbrev cX2_step : ByteArray := prog_4_method_5_code
def yX2_step : MethodName := ⟨RX2, "step", "()V"⟩
abbrev cX2_accept : ByteArray := prog_4_method_6_code
def yX2_accept : MethodName := ⟨RX2, "accept", "(I)Z"⟩
abbrev cX2_need : ByteArray := prog_4_method_7_code
def yX2_need : MethodName := ⟨RX2, "need", "(I)V"⟩
abbrev cX2_needEnd : ByteArray := prog_4_method_8_code
def yX2_needEnd : MethodName := ⟨RX2, "needEnd", "()V"⟩
abbrev cX2_needOneOf : ByteArray := prog_4_method_9_code
def yX2_needOneOf : MethodName := ⟨RX2, "needOneOf", "(II)I"⟩
abbrev cX2_fail : ByteArray := prog_4_method_10_code
def yX2_fail : MethodName := ⟨RX2, "fail", "()V"⟩
def RX3 : String := "DiceLaw$Diary"
def TX3 : u_T := fun k => match k with
  | 0 => ("DiceLaw$Diary", "x", "J", false)
  | 1 => ("DiceLaw$Diary", "laws", "I", false)
  | 2 => ("DiceLaw$Diary", "days", "I", false)
  | 3 => ("DiceLaw$Diary", "acts", "I", false)
  | 4 => ("DiceLaw$Diary", "lies", "[I", true)
  | 5 => ("DiceLaw$Diary", "holding", "[I", true)
  | 6 => ("DiceLaw$Diary", "thrown", "[I", true)
  | 7 => ("DiceLaw$Diary", "done", "[I", true)
  | 8 => ("DiceLaw$Diary", "before", "[J", true)
  | _ => ("DiceLaw$Diary", "shows", "[I", true)
def tyX3 : Nat → FieldType := fun k => match k with
  | 0 => .long
  | 1 => .int
  | 2 => .int
  | 3 => .int
  | 4 => .array .int
  | 5 => .array .int
  | 6 => .array .int
  | 7 => .array .int
  | 8 => .array .long
  | _ => .array .int
abbrev wsX30 : List Cond := u_ws RX3 TX3 10
theorem nmX3 : ∀ a, a < 10 → ∀ b, b < 10 → a ≠ b → (TX3 a).2.1 ≠ (TX3 b).2.1 := by decide +kernel
theorem tyX3_ok : ∀ k, k < 10 → parseFieldDescriptor (TX3 k).2.2.1 = some (tyX3 k) := by decide +kernel
abbrev cX3_init : ByteArray := prog_5_method_1_code
def yX3_init : MethodName := ⟨RX3, "<init>", "()V"⟩
abbrev cX3_has : ByteArray := prog_5_method_2_code
def yX3_has : MethodName := ⟨RX3, "has", "(I)Z"⟩
abbrev cX3_add : ByteArray := prog_5_method_3_code
def yX3_add : MethodName := ⟨RX3, "add", "(LDiceLaw$Book;[IIJ)I"⟩
abbrev cX3_drop : ByteArray := prog_5_method_4_code
def yX3_drop : MethodName := ⟨RX3, "drop", "()I"⟩
abbrev cX3_digits : ByteArray := prog_5_method_5_code
def yX3_digits : MethodName := ⟨RX3, "digits", "(I)I"⟩
abbrev cX3_faceOf : ByteArray := prog_5_method_6_code
def yX3_faceOf : MethodName := ⟨RX3, "faceOf", "(II)I"⟩
abbrev cX3_holdingOf : ByteArray := prog_5_method_7_code
def yX3_holdingOf : MethodName := ⟨RX3, "holdingOf", "(II)I"⟩
abbrev cX3_today : ByteArray := prog_5_method_8_code
def yX3_today : MethodName := ⟨RX3, "today", "(I)I"⟩
abbrev cX3_by : ByteArray := prog_5_method_9_code
def yX3_by : MethodName := ⟨RX3, "by", "(II)I"⟩
abbrev cX3_lawfulOn : ByteArray := prog_5_method_10_code
def yX3_lawfulOn : MethodName := ⟨RX3, "lawfulOn", "(II)Z"⟩
abbrev cX3_boundOn : ByteArray := prog_5_method_11_code
def yX3_boundOn : MethodName := ⟨RX3, "boundOn", "(II)Z"⟩
abbrev cX3_isPeaceful : ByteArray := prog_5_method_12_code
def yX3_isPeaceful : MethodName := ⟨RX3, "isPeaceful", "(I)Z"⟩
abbrev cX3_did : ByteArray := prog_5_method_13_code
def yX3_did : MethodName := ⟨RX3, "did", "(III)Z"⟩
abbrev cX3_enter : ByteArray := prog_5_method_14_code
def yX3_enter : MethodName := ⟨RX3, "enter", "(III)I"⟩
abbrev cX3_breach : ByteArray := prog_5_method_15_code
def yX3_breach : MethodName := ⟨RX3, "breach", "(III)I"⟩
abbrev cX3_take : ByteArray := prog_5_method_16_code
def yX3_take : MethodName := ⟨RX3, "take", "(LDiceLaw$Diary;)V"⟩
def RX4 : String := "DiceLaw$Dice"
def TX4 : u_T := fun k => match k with
  | 0 => ("DiceLaw$Dice", "lies", "[I", true)
  | 1 => ("DiceLaw$Dice", "aims", "[I", true)
  | 2 => ("DiceLaw$Dice", "thrown", "I", false)
  | _ => ("DiceLaw$Dice", "x", "J", false)
def tyX4 : Nat → FieldType := fun k => match k with
  | 0 => .array .int
  | 1 => .array .int
  | 2 => .int
  | _ => .long
abbrev wsX40 : List Cond := u_ws RX4 TX4 4
theorem nmX4 : ∀ a, a < 4 → ∀ b, b < 4 → a ≠ b → (TX4 a).2.1 ≠ (TX4 b).2.1 := by decide +kernel
theorem tyX4_ok : ∀ k, k < 4 → parseFieldDescriptor (TX4 k).2.2.1 = some (tyX4 k) := by decide +kernel
abbrev cX4_init : ByteArray := prog_6_method_1_code
def yX4_init : MethodName := ⟨RX4, "<init>", "()V"⟩
abbrev cX4_lay : ByteArray := prog_6_method_2_code
def yX4_lay : MethodName := ⟨RX4, "lay", "(II)Z"⟩
abbrev cX4_throwAll : ByteArray := prog_6_method_3_code
def yX4_throwAll : MethodName := ⟨RX4, "throwAll", "(LDiceLaw$Book;J)J"⟩
abbrev cX4_throwOne : ByteArray := prog_6_method_4_code
def yX4_throwOne : MethodName := ⟨RX4, "throwOne", "(LDiceLaw$Book;I)V"⟩
def RX5 : String := "DiceLaw$Kinds"
def TX5 : u_T := fun k => match k with
  | 0 => ("DiceLaw$Kinds", "many", "[I", true)
  | 1 => ("DiceLaw$Kinds", "signs", "[I", true)
  | _ => ("DiceLaw$Kinds", "shares", "[I", true)
def tyX5 : Nat → FieldType := fun k => match k with
  | 0 => .array .int
  | 1 => .array .int
  | _ => .array .int
abbrev wsX50 : List Cond := u_ws RX5 TX5 3
theorem nmX5 : ∀ a, a < 3 → ∀ b, b < 3 → a ≠ b → (TX5 a).2.1 ≠ (TX5 b).2.1 := by decide +kernel
theorem tyX5_ok : ∀ k, k < 3 → parseFieldDescriptor (TX5 k).2.2.1 = some (tyX5 k) := by decide +kernel
abbrev cX5_init : ByteArray := prog_7_method_1_code
def yX5_init : MethodName := ⟨RX5, "<init>", "()V"⟩
abbrev cX5_empty : ByteArray := prog_7_method_2_code
def yX5_empty : MethodName := ⟨RX5, "empty", "()V"⟩
abbrev cX5_add : ByteArray := prog_7_method_3_code
def yX5_add : MethodName := ⟨RX5, "add", "(III)I"⟩
abbrev cX5_signOf : ByteArray := prog_7_method_4_code
def yX5_signOf : MethodName := ⟨RX5, "signOf", "(II)I"⟩
abbrev cX5_shareOf : ByteArray := prog_7_method_5_code
def yX5_shareOf : MethodName := ⟨RX5, "shareOf", "(II)I"⟩
def RX6 : String := "DiceLaw$LawReader"
def TX6 : u_T := fun k => match k with
  | 0 => ("DiceLaw$LawReader", "cursor", "LDiceLaw$Cursor;", true)
  | _ => ("DiceLaw$LawReader", "clauses", "[I", true)
def tyX6 : Nat → FieldType := fun k => match k with
  | 0 => .object "DiceLaw$Cursor"
  | _ => .array .int
abbrev wsX60 : List Cond := u_ws RX6 TX6 2
theorem nmX6 : ∀ a, a < 2 → ∀ b, b < 2 → a ≠ b → (TX6 a).2.1 ≠ (TX6 b).2.1 := by decide +kernel
theorem tyX6_ok : ∀ k, k < 2 → parseFieldDescriptor (TX6 k).2.2.1 = some (tyX6 k) := by decide +kernel
abbrev cX6_init : ByteArray := prog_8_method_1_code
def yX6_init : MethodName := ⟨RX6, "<init>", "()V"⟩
abbrev cX6_read : ByteArray := prog_8_method_2_code
def yX6_read : MethodName := ⟨RX6, "read", "(LDiceLaw$Text;)I"⟩
abbrev cX6_readClause : ByteArray := prog_8_method_3_code
def yX6_readClause : MethodName := ⟨RX6, "readClause", "()I"⟩
def RX7 : String := "DiceLaw$RuleReader"
def TX7 : u_T := fun k => match k with
  | 0 => ("DiceLaw$RuleReader", "cursor", "LDiceLaw$Cursor;", true)
  | 1 => ("DiceLaw$RuleReader", "letters", "[I", true)
  | 2 => ("DiceLaw$RuleReader", "worth", "I", false)
  | 3 => ("DiceLaw$RuleReader", "decided", "Z", false)
  | 4 => ("DiceLaw$RuleReader", "isAhead", "Z", false)
  | _ => ("DiceLaw$RuleReader", "ahead", "I", false)
def tyX7 : Nat → FieldType := fun k => match k with
  | 0 => .object "DiceLaw$Cursor"
  | 1 => .array .int
  | 2 => .int
  | 3 => .boolean
  | 4 => .boolean
  | _ => .int
abbrev wsX70 : List Cond := u_ws RX7 TX7 6
theorem nmX7 : ∀ a, a < 6 → ∀ b, b < 6 → a ≠ b → (TX7 a).2.1 ≠ (TX7 b).2.1 := by decide +kernel
theorem tyX7_ok : ∀ k, k < 6 → parseFieldDescriptor (TX7 k).2.2.1 = some (tyX7 k) := by decide +kernel
abbrev cX7_init : ByteArray := prog_9_method_1_code
def yX7_init : MethodName := ⟨RX7, "<init>", "()V"⟩
abbrev cX7_read : ByteArray := prog_9_method_2_code
def yX7_read : MethodName := ⟨RX7, "read", "(LDiceLaw$Text;[I)I"⟩
abbrev cX7_readClause : ByteArray := prog_9_method_3_code
def yX7_readClause : MethodName := ⟨RX7, "readClause", "()V"⟩
abbrev cX7_readCondition : ByteArray := prog_9_method_4_code
def yX7_readCondition : MethodName := ⟨RX7, "readCondition", "(I)Z"⟩
abbrev cX7_readTruth : ByteArray := prog_9_method_5_code
def yX7_readTruth : MethodName := ⟨RX7, "readTruth", "(I)Z"⟩
abbrev cX7_readUnit : ByteArray := prog_9_method_6_code
def yX7_readUnit : MethodName := ⟨RX7, "readUnit", "(I)Z"⟩
abbrev cX7_readSum : ByteArray := prog_9_method_7_code
def yX7_readSum : MethodName := ⟨RX7, "readSum", "(I)I"⟩
abbrev cX7_readTerm : ByteArray := prog_9_method_8_code
def yX7_readTerm : MethodName := ⟨RX7, "readTerm", "(I)I"⟩
abbrev cX7_readAtom : ByteArray := prog_9_method_9_code
def yX7_readAtom : MethodName := ⟨RX7, "readAtom", "(I)I"⟩
abbrev cX7_readNumber : ByteArray := prog_9_method_10_code
def yX7_readNumber : MethodName := ⟨RX7, "readNumber", "()I"⟩
abbrev cX7_opens : ByteArray := prog_9_method_11_code
def yX7_opens : MethodName := ⟨RX7, "opens", "(I)Z"⟩
abbrev cX7_letterOf : ByteArray := prog_9_method_12_code
def yX7_letterOf : MethodName := ⟨RX7, "letterOf", "(I)I"⟩
abbrev cX7_isComparison : ByteArray := prog_9_method_13_code
def yX7_isComparison : MethodName := ⟨RX7, "isComparison", "(I)Z"⟩
abbrev cX7_bounded : ByteArray := prog_9_method_14_code
def yX7_bounded : MethodName := ⟨RX7, "bounded", "(J)I"⟩
def RX8 : String := "DiceLaw$Text"
def TX8 : u_T := fun k => match k with
  | 0 => ("DiceLaw$Text", "signs", "[I", true)
  | _ => ("DiceLaw$Text", "length", "I", false)
def tyX8 : Nat → FieldType := fun k => match k with
  | 0 => .array .int
  | _ => .int
abbrev wsX80 : List Cond := u_ws RX8 TX8 2
theorem nmX8 : ∀ a, a < 2 → ∀ b, b < 2 → a ≠ b → (TX8 a).2.1 ≠ (TX8 b).2.1 := by decide +kernel
theorem tyX8_ok : ∀ k, k < 2 → parseFieldDescriptor (TX8 k).2.2.1 = some (tyX8 k) := by decide +kernel
abbrev cX8_init : ByteArray := prog_10_method_1_code
def yX8_init : MethodName := ⟨RX8, "<init>", "()V"⟩
abbrev cX8_append : ByteArray := prog_10_method_2_code
def yX8_append : MethodName := ⟨RX8, "append", "(I)V"⟩
abbrev cX8_take : ByteArray := prog_10_method_3_code
def yX8_take : MethodName := ⟨RX8, "take", "(LDiceLaw$Text;)V"⟩
def RX9 : String := "DiceLaw$Tomorrow"
def TX9 : u_T := fun k => match k with
  | 0 => ("DiceLaw$Tomorrow", "laws", "I", false)
  | 1 => ("DiceLaw$Tomorrow", "clauses", "[I", true)
  | 2 => ("DiceLaw$Tomorrow", "weights", "[I", true)
  | 3 => ("DiceLaw$Tomorrow", "yesterday", "[I", true)
  | 4 => ("DiceLaw$Tomorrow", "fine", "Z", false)
  | 5 => ("DiceLaw$Tomorrow", "types", "LDiceLaw$Kinds;", true)
  | 6 => ("DiceLaw$Tomorrow", "lots", "LDiceLaw$Kinds;", true)
  | 7 => ("DiceLaw$Tomorrow", "lotOfType", "[I", true)
  | 8 => ("DiceLaw$Tomorrow", "lotOfFace", "[I", true)
  | 9 => ("DiceLaw$Tomorrow", "steps", "[I", true)
  | 10 => ("DiceLaw$Tomorrow", "lies", "[I", true)
  | 11 => ("DiceLaw$Tomorrow", "ends", "[J", true)
  | _ => ("DiceLaw$Tomorrow", "byThrown", "[J", true)
def tyX9 : Nat → FieldType := fun k => match k with
  | 0 => .int
  | 1 => .array .int
  | 2 => .array .int
  | 3 => .array .int
  | 4 => .boolean
  | 5 => .object "DiceLaw$Kinds"
  | 6 => .object "DiceLaw$Kinds"
  | 7 => .array .int
  | 8 => .array .int
  | 9 => .array .int
  | 10 => .array .int
  | 11 => .array .long
  | _ => .array .long
abbrev wsX90 : List Cond := u_ws RX9 TX9 13
theorem nmX9 : ∀ a, a < 13 → ∀ b, b < 13 → a ≠ b → (TX9 a).2.1 ≠ (TX9 b).2.1 := by decide +kernel
theorem tyX9_ok : ∀ k, k < 13 → parseFieldDescriptor (TX9 k).2.2.1 = some (tyX9 k) := by decide +kernel
abbrev cX9_init : ByteArray := prog_11_method_1_code
def yX9_init : MethodName := ⟨RX9, "<init>", "()V"⟩
abbrev cX9_load : ByteArray := prog_11_method_2_code
def yX9_load : MethodName := ⟨RX9, "load", "(LDiceLaw$Book;LDiceLaw$Diary;)V"⟩
abbrev cX9_alter : ByteArray := prog_11_method_3_code
def yX9_alter : MethodName := ⟨RX9, "alter", "(III)V"⟩
abbrev cX9_shift : ByteArray := prog_11_method_4_code
def yX9_shift : MethodName := ⟨RX9, "shift", "(III)V"⟩
abbrev cX9_total : ByteArray := prog_11_method_5_code
def yX9_total : MethodName := ⟨RX9, "total", "()J"⟩
abbrev cX9_showsOn : ByteArray := prog_11_method_6_code
def yX9_showsOn : MethodName := ⟨RX9, "showsOn", "(II)I"⟩
abbrev cX9_lotSign : ByteArray := prog_11_method_7_code
def yX9_lotSign : MethodName := ⟨RX9, "lotSign", "(I)I"⟩
abbrev cX9_toss : ByteArray := prog_11_method_8_code
def yX9_toss : MethodName := ⟨RX9, "toss", "(Z)V"⟩
abbrev cX9_sortTypes : ByteArray := prog_11_method_9_code
def yX9_sortTypes : MethodName := ⟨RX9, "sortTypes", "()V"⟩
abbrev cX9_look : ByteArray := prog_11_method_10_code
def yX9_look : MethodName := ⟨RX9, "look", "(IIJ)V"⟩
abbrev cX9_throwAgain : ByteArray := prog_11_method_11_code
def yX9_throwAgain : MethodName := ⟨RX9, "throwAgain", "(IIJ)V"⟩
abbrev cX9_rest : ByteArray := prog_11_method_12_code
def yX9_rest : MethodName := ⟨RX9, "rest", "(IJ)V"⟩
abbrev cX9_spread : ByteArray := prog_11_method_13_code
def yX9_spread : MethodName := ⟨RX9, "spread", "(IIJ)V"⟩
def RX10 : String := "DiceLaw"
def TX10 : u_T := fun k => match k with
  | 0 => ("DiceLaw", "tape", "LDiceLaw$Text;", true)
  | 1 => ("DiceLaw", "rules", "[LDiceLaw$Text;", true)
  | 2 => ("DiceLaw", "ruleCount", "I", false)
  | 3 => ("DiceLaw", "lawReader", "LDiceLaw$LawReader;", true)
  | 4 => ("DiceLaw", "ruleReader", "LDiceLaw$RuleReader;", true)
  | 5 => ("DiceLaw", "letters", "[I", true)
  | 6 => ("DiceLaw", "book", "LDiceLaw$Book;", true)
  | 7 => ("DiceLaw", "diary", "LDiceLaw$Diary;", true)
  | 8 => ("DiceLaw", "keptBook", "LDiceLaw$Book;", true)
  | 9 => ("DiceLaw", "keptDiary", "LDiceLaw$Diary;", true)
  | 10 => ("DiceLaw", "kept", "Z", false)
  | 11 => ("DiceLaw", "asked", "[I", true)
  | 12 => ("DiceLaw", "wanted", "[I", true)
  | 13 => ("DiceLaw", "dice", "LDiceLaw$Dice;", true)
  | 14 => ("DiceLaw", "chances", "LDiceLaw$Chances;", true)
  | _ => ("DiceLaw", "tomorrow", "LDiceLaw$Tomorrow;", true)
def tyX10 : Nat → FieldType := fun k => match k with
  | 0 => .object "DiceLaw$Text"
  | 1 => .array (.object "DiceLaw$Text")
  | 2 => .int
  | 3 => .object "DiceLaw$LawReader"
  | 4 => .object "DiceLaw$RuleReader"
  | 5 => .array .int
  | 6 => .object "DiceLaw$Book"
  | 7 => .object "DiceLaw$Diary"
  | 8 => .object "DiceLaw$Book"
  | 9 => .object "DiceLaw$Diary"
  | 10 => .boolean
  | 11 => .array .int
  | 12 => .array .int
  | 13 => .object "DiceLaw$Dice"
  | 14 => .object "DiceLaw$Chances"
  | _ => .object "DiceLaw$Tomorrow"
abbrev wsX100 : List Cond := u_ws RX10 TX10 16
theorem nmX10 : ∀ a, a < 16 → ∀ b, b < 16 → a ≠ b → (TX10 a).2.1 ≠ (TX10 b).2.1 := by decide +kernel
theorem tyX10_ok : ∀ k, k < 16 → parseFieldDescriptor (TX10 k).2.2.1 = some (tyX10 k) := by decide +kernel
abbrev cX10_init : ByteArray := prog_1_method_1_code
def yX10_init : MethodName := ⟨RX10, "<init>", "()V"⟩
abbrev cX10_feed : ByteArray := prog_1_method_2_code
def yX10_feed : MethodName := ⟨RX10, "feed", "(IIIII)I"⟩
abbrev cX10_end : ByteArray := prog_1_method_3_code
def yX10_end : MethodName := ⟨RX10, "end", "(I)Z"⟩
abbrev cX10_fault : ByteArray := prog_1_method_4_code
def yX10_fault : MethodName := ⟨RX10, "fault", "(I)I"⟩
abbrev cX10_text : ByteArray := prog_1_method_5_code
def yX10_text : MethodName := ⟨RX10, "text", "(I)I"⟩
abbrev cX10_takeLaw : ByteArray := prog_1_method_6_code
def yX10_takeLaw : MethodName := ⟨RX10, "takeLaw", "()I"⟩
abbrev cX10_takeRule : ByteArray := prog_1_method_7_code
def yX10_takeRule : MethodName := ⟨RX10, "takeRule", "()I"⟩
abbrev cX10_clause : ByteArray := prog_1_method_8_code
def yX10_clause : MethodName := ⟨RX10, "clause", "(II)I"⟩
abbrev cX10_weigh : ByteArray := prog_1_method_9_code
def yX10_weigh : MethodName := ⟨RX10, "weigh", "(IIIIIII)Z"⟩
abbrev cX10_isWeighed : ByteArray := prog_1_method_10_code
def yX10_isWeighed : MethodName := ⟨RX10, "isWeighed", "(IIIIII)Z"⟩
abbrev cX10_weight : ByteArray := prog_1_method_11_code
def yX10_weight : MethodName := ⟨RX10, "weight", "(II)I"⟩
abbrev cX10_amend : ByteArray := prog_1_method_12_code
def yX10_amend : MethodName := ⟨RX10, "amend", "(III)Z"⟩
abbrev cX10_seed : ByteArray := prog_1_method_13_code
def yX10_seed : MethodName := ⟨RX10, "seed", "(J)V"⟩
abbrev cX10_dawn : ByteArray := prog_1_method_14_code
def yX10_dawn : MethodName := ⟨RX10, "dawn", "()I"⟩
abbrev cX10_told : ByteArray := prog_1_method_15_code
def yX10_told : MethodName := ⟨RX10, "told", "(I)I"⟩
abbrev cX10_undo : ByteArray := prog_1_method_16_code
def yX10_undo : MethodName := ⟨RX10, "undo", "()I"⟩
abbrev cX10_day : ByteArray := prog_1_method_17_code
def yX10_day : MethodName := ⟨RX10, "day", "(II)I"⟩
abbrev cX10_held : ByteArray := prog_1_method_18_code
def yX10_held : MethodName := ⟨RX10, "held", "(II)I"⟩
abbrev cX10_deed : ByteArray := prog_1_method_19_code
def yX10_deed : MethodName := ⟨RX10, "deed", "(III)I"⟩
abbrev cX10_odds : ByteArray := prog_1_method_20_code
def yX10_odds : MethodName := ⟨RX10, "odds", "(III)J"⟩
abbrev cX10_both : ByteArray := prog_1_method_21_code
def yX10_both : MethodName := ⟨RX10, "both", "(III)J"⟩
abbrev cX10_free : ByteArray := prog_1_method_22_code
def yX10_free : MethodName := ⟨RX10, "free", "(I)J"⟩
abbrev cX10_holds : ByteArray := prog_1_method_23_code
def yX10_holds : MethodName := ⟨RX10, "holds", "(III)J"⟩
abbrev cX10_again : ByteArray := prog_1_method_24_code
def yX10_again : MethodName := ⟨RX10, "again", "(II)J"⟩
abbrev cX10_sure : ByteArray := prog_1_method_25_code
def yX10_sure : MethodName := ⟨RX10, "sure", "(I)I"⟩
abbrev cX10_waits : ByteArray := prog_1_method_26_code
def yX10_waits : MethodName := ⟨RX10, "waits", "(II)I"⟩
abbrev cX10_value : ByteArray := prog_1_method_27_code
def yX10_value : MethodName := ⟨RX10, "value", "(IIII)J"⟩
abbrev cX10_worthOfWait : ByteArray := prog_1_method_28_code
def yX10_worthOfWait : MethodName := ⟨RX10, "worthOfWait", "(JIII)J"⟩
abbrev cX10_given : ByteArray := prog_1_method_29_code
def yX10_given : MethodName := ⟨RX10, "given", "(IIII)J"⟩
abbrev cX10_harm : ByteArray := prog_1_method_30_code
def yX10_harm : MethodName := ⟨RX10, "harm", "(I)I"⟩
abbrev cX10_likeliest : ByteArray := prog_1_method_31_code
def yX10_likeliest : MethodName := ⟨RX10, "likeliest", "(I)J"⟩
abbrev cX10_apart : ByteArray := prog_1_method_32_code
def yX10_apart : MethodName := ⟨RX10, "apart", "(II)I"⟩
abbrev cX10_mean : ByteArray := prog_1_method_33_code
def yX10_mean : MethodName := ⟨RX10, "mean", "(I)J"⟩
abbrev cX10_throwTomorrow : ByteArray := prog_1_method_34_code
def yX10_throwTomorrow : MethodName := ⟨RX10, "throwTomorrow", "()V"⟩
abbrev cX10_chance : ByteArray := prog_1_method_35_code
def yX10_chance : MethodName := ⟨RX10, "chance", "(III)J"⟩
abbrev cX10_act : ByteArray := prog_1_method_36_code
def yX10_act : MethodName := ⟨RX10, "act", "(III)I"⟩
abbrev cX10_suit : ByteArray := prog_1_method_37_code
def yX10_suit : MethodName := ⟨RX10, "suit", "(II)I"⟩
abbrev cX10_idle : ByteArray := prog_1_method_38_code
def yX10_idle : MethodName := ⟨RX10, "idle", "(I)I"⟩
abbrev cX10_suspect : ByteArray := prog_1_method_39_code
def yX10_suspect : MethodName := ⟨RX10, "suspect", "(IIIIII)Z"⟩
abbrev cX10_named : ByteArray := prog_1_method_40_code
def yX10_named : MethodName := ⟨RX10, "named", "(III)I"⟩
abbrev cX10_enough : ByteArray := prog_1_method_41_code
def yX10_enough : MethodName := ⟨RX10, "enough", "(II)I"⟩
abbrev cX10_isNamed : ByteArray := prog_1_method_42_code
def yX10_isNamed : MethodName := ⟨RX10, "isNamed", "(III)Z"⟩
abbrev cX10_amended : ByteArray := prog_1_method_43_code
def yX10_amended : MethodName := ⟨RX10, "amended", "(IIII)J"⟩
abbrev cX10_change : ByteArray := prog_1_method_44_code
def yX10_change : MethodName := ⟨RX10, "change", "(IIII)J"⟩
abbrev cX10_help : ByteArray := prog_1_method_45_code
def yX10_help : MethodName := ⟨RX10, "help", "(II)J"⟩
abbrev cX10_follow : ByteArray := prog_1_method_46_code
def yX10_follow : MethodName := ⟨RX10, "follow", "(III)I"⟩
abbrev cX10_isFollowed : ByteArray := prog_1_method_47_code
def yX10_isFollowed : MethodName := ⟨RX10, "isFollowed", "(ZIII)Z"⟩
abbrev cX10_setLetters : ByteArray := prog_1_method_48_code
def yX10_setLetters : MethodName := ⟨RX10, "setLetters", "(III)V"⟩
abbrev cX10_run : ByteArray := prog_1_method_49_code
def yX10_run : MethodName := ⟨RX10, "run", "(II)I"⟩
abbrev cX10_peace : ByteArray := prog_1_method_50_code
def yX10_peace : MethodName := ⟨RX10, "peace", "(I)I"⟩
abbrev cX10_busiest : ByteArray := prog_1_method_51_code
def yX10_busiest : MethodName := ⟨RX10, "busiest", "()I"⟩
abbrev cX10_image : ByteArray := prog_1_method_52_code
def yX10_image : MethodName := ⟨RX10, "image", "()I"⟩
abbrev cX10_back : ByteArray := prog_1_method_53_code
def yX10_back : MethodName := ⟨RX10, "back", "()I"⟩
abbrev cX10_count : ByteArray := prog_1_method_54_code
def yX10_count : MethodName := ⟨RX10, "count", "(I)I"⟩
abbrev cX10_isDeed : ByteArray := prog_1_method_55_code
def yX10_isDeed : MethodName := ⟨RX10, "isDeed", "(I)Z"⟩
abbrev cX10_areTwoDeeds : ByteArray := prog_1_method_56_code
def yX10_areTwoDeeds : MethodName := ⟨RX10, "areTwoDeeds", "(II)Z"⟩
abbrev cX10_isPerson : ByteArray := prog_1_method_57_code
def yX10_isPerson : MethodName := ⟨RX10, "isPerson", "(I)Z"⟩
abbrev cX10_isPart : ByteArray := prog_1_method_58_code
def yX10_isPart : MethodName := ⟨RX10, "isPart", "(I)Z"⟩
abbrev cX10_isDoubt : ByteArray := prog_1_method_59_code
def yX10_isDoubt : MethodName := ⟨RX10, "isDoubt", "(I)Z"⟩
abbrev cX10_isClause : ByteArray := prog_1_method_60_code
def yX10_isClause : MethodName := ⟨RX10, "isClause", "(I)Z"⟩
abbrev cX10_at : ByteArray := prog_1_method_61_code
def yX10_at : MethodName := ⟨RX10, "at", "([II)I"⟩
abbrev cX10_at_ : ByteArray := prog_1_method_62_code
def yX10_at_ : MethodName := ⟨RX10, "at", "([JI)J"⟩
abbrev cX10_put : ByteArray := prog_1_method_63_code
def yX10_put : MethodName := ⟨RX10, "put", "([III)V"⟩
abbrev cX10_put_ : ByteArray := prog_1_method_64_code
def yX10_put_ : MethodName := ⟨RX10, "put", "([JIJ)V"⟩
abbrev cX10_raise : ByteArray := prog_1_method_65_code
def yX10_raise : MethodName := ⟨RX10, "raise", "([JIJ)V"⟩
abbrev cX10_clear : ByteArray := prog_1_method_66_code
def yX10_clear : MethodName := ⟨RX10, "clear", "([JI)V"⟩
abbrev cX10_copy : ByteArray := prog_1_method_67_code
def yX10_copy : MethodName := ⟨RX10, "copy", "([II[III)V"⟩
abbrev cX10_copyAll : ByteArray := prog_1_method_68_code
def yX10_copyAll : MethodName := ⟨RX10, "copyAll", "([I[I)V"⟩
abbrev cX10_bit : ByteArray := prog_1_method_69_code
def yX10_bit : MethodName := ⟨RX10, "bit", "(Z)I"⟩
abbrev cX10_bytesIn : ByteArray := prog_1_method_70_code
def yX10_bytesIn : MethodName := ⟨RX10, "bytesIn", "(I)I"⟩
abbrev cX10_fraction : ByteArray := prog_1_method_71_code
def yX10_fraction : MethodName := ⟨RX10, "fraction", "(JJI)J"⟩
abbrev cX10_commonDivisor : ByteArray := prog_1_method_72_code
def yX10_commonDivisor : MethodName := ⟨RX10, "commonDivisor", "(JJ)J"⟩
abbrev cX10_aimOf : ByteArray := prog_1_method_73_code
def yX10_aimOf : MethodName := ⟨RX10, "aimOf", "(II)I"⟩
abbrev cX10_settled : ByteArray := prog_1_method_74_code
def yX10_settled : MethodName := ⟨RX10, "settled", "(III)I"⟩
abbrev cX10_heldBy : ByteArray := prog_1_method_75_code
def yX10_heldBy : MethodName := ⟨RX10, "heldBy", "([III)I"⟩
abbrev cX10_lowest : ByteArray := prog_1_method_76_code
def yX10_lowest : MethodName := ⟨RX10, "lowest", "([III)I"⟩
abbrev cX10_byHowMany : ByteArray := prog_1_method_77_code
def yX10_byHowMany : MethodName := ⟨RX10, "byHowMany", "([IIII)I"⟩
abbrev cX10_isLawful : ByteArray := prog_1_method_78_code
def yX10_isLawful : MethodName := ⟨RX10, "isLawful", "([IIII)Z"⟩
abbrev cX10_isBound : ByteArray := prog_1_method_79_code
def yX10_isBound : MethodName := ⟨RX10, "isBound", "([IIII)Z"⟩
def RX11 : String := "DiceLawModel"
def TX11 : u_T := fun k => match k with
  | 0 => ("DiceLawModel", "thrown", "I", false)
  | 1 => ("DiceLawModel", "tape", "[B", true)
  | 2 => ("DiceLawModel", "texts", "[B", true)
  | 3 => ("DiceLawModel", "textLong", "[I", true)
  | 4 => ("DiceLawModel", "letters", "[I", true)
  | 5 => ("DiceLawModel", "text", "[B", false)
  | 6 => ("DiceLawModel", "length", "I", false)
  | 7 => ("DiceLawModel", "ruleMany", "I", false)
  | 8 => ("DiceLawModel", "begins", "I", false)
  | 9 => ("DiceLawModel", "ends", "I", false)
  | 10 => ("DiceLawModel", "at", "I", false)
  | 11 => ("DiceLawModel", "fault", "I", false)
  | 12 => ("DiceLawModel", "deep", "I", false)
  | 13 => ("DiceLawModel", "label", "I", false)
  | 14 => ("DiceLawModel", "found", "I", false)
  | 15 => ("DiceLawModel", "labels", "Ljava/lang/String;", true)
  | 16 => ("DiceLawModel", "allowed", "Ljava/lang/String;", true)
  | 17 => ("DiceLawModel", "hasFound", "Z", false)
  | 18 => ("DiceLawModel", "clauses", "[I", true)
  | 19 => ("DiceLawModel", "clausesRead", "[I", true)
  | 20 => ("DiceLawModel", "laws", "I", false)
  | 21 => ("DiceLawModel", "weights", "[I", true)
  | 22 => ("DiceLawModel", "suspects", "[I", true)
  | 23 => ("DiceLawModel", "faces", "[I", true)
  | 24 => ("DiceLawModel", "hold", "[I", true)
  | 25 => ("DiceLawModel", "hasDone", "[Z", true)
  | 26 => ("DiceLawModel", "held", "[I", true)
  | 27 => ("DiceLawModel", "faceOf", "[I", true)
  | 28 => ("DiceLawModel", "againOf", "[I", true)
  | 29 => ("DiceLawModel", "xAhead", "[J", true)
  | 30 => ("DiceLawModel", "dawns", "I", false)
  | 31 => ("DiceLawModel", "x", "J", false)
  | 32 => ("DiceLawModel", "asked", "I", false)
  | 33 => ("DiceLawModel", "askedOne", "I", false)
  | 34 => ("DiceLawModel", "askedOther", "I", false)
  | 35 => ("DiceLawModel", "askedDeed", "I", false)
  | 36 => ("DiceLawModel", "sure", "I", false)
  | 37 => ("DiceLawModel", "never", "I", false)
  | 38 => ("DiceLawModel", "tally", "J", false)
  | 39 => ("DiceLawModel", "ways", "[J", true)
  | 40 => ("DiceLawModel", "sum", "J", false)
  | 41 => ("DiceLawModel", "actWho", "[I", true)
  | 42 => ("DiceLawModel", "actDeed", "[I", true)
  | 43 => ("DiceLawModel", "actDay", "[I", true)
  | 44 => ("DiceLawModel", "acts", "I", false)
  | 45 => ("DiceLawModel", "image", "[I", true)
  | 46 => ("DiceLawModel", "imageAhead", "[J", true)
  | 47 => ("DiceLawModel", "imageLaws", "I", false)
  | 48 => ("DiceLawModel", "imageDawns", "I", false)
  | 49 => ("DiceLawModel", "imageActs", "I", false)
  | 50 => ("DiceLawModel", "place", "I", false)
  | 51 => ("DiceLawModel", "imageX", "J", false)
  | _ => ("DiceLawModel", "hasImage", "Z", false)
def tyX11 : Nat → FieldType := fun k => match k with
  | 0 => .int
  | 1 => .array .byte
  | 2 => .array .byte
  | 3 => .array .int
  | 4 => .array .int
  | 5 => .array .byte
  | 6 => .int
  | 7 => .int
  | 8 => .int
  | 9 => .int
  | 10 => .int
  | 11 => .int
  | 12 => .int
  | 13 => .int
  | 14 => .int
  | 15 => .object "java/lang/String"
  | 16 => .object "java/lang/String"
  | 17 => .boolean
  | 18 => .array .int
  | 19 => .array .int
  | 20 => .int
  | 21 => .array .int
  | 22 => .array .int
  | 23 => .array .int
  | 24 => .array .int
  | 25 => .array .boolean
  | 26 => .array .int
  | 27 => .array .int
  | 28 => .array .int
  | 29 => .array .long
  | 30 => .int
  | 31 => .long
  | 32 => .int
  | 33 => .int
  | 34 => .int
  | 35 => .int
  | 36 => .int
  | 37 => .int
  | 38 => .long
  | 39 => .array .long
  | 40 => .long
  | 41 => .array .int
  | 42 => .array .int
  | 43 => .array .int
  | 44 => .int
  | 45 => .array .int
  | 46 => .array .long
  | 47 => .int
  | 48 => .int
  | 49 => .int
  | 50 => .int
  | 51 => .long
  | _ => .boolean
abbrev wsX110 : List Cond := u_ws RX11 TX11 53
theorem nmX11 : ∀ a, a < 53 → ∀ b, b < 53 → a ≠ b → (TX11 a).2.1 ≠ (TX11 b).2.1 := by decide +kernel
theorem tyX11_ok : ∀ k, k < 53 → parseFieldDescriptor (TX11 k).2.2.1 = some (tyX11 k) := by decide +kernel
abbrev cX11_init : ByteArray := prog_13_method_1_code
def yX11_init : MethodName := ⟨RX11, "<init>", "()V"⟩
abbrev cX11_thrown : ByteArray := prog_13_method_2_code
def yX11_thrown : MethodName := ⟨RX11, "thrown", "()I"⟩
abbrev cX11_isIn : ByteArray := prog_13_method_3_code
def yX11_isIn : MethodName := ⟨RX11, "isIn", "(JJJ)Z"⟩
abbrev cX11_isAmong : ByteArray := prog_13_method_4_code
def yX11_isAmong : MethodName := ⟨RX11, "isAmong", "(Ljava/lang/String;I)Z"⟩
abbrev cX11_bytesIn : ByteArray := prog_13_method_5_code
def yX11_bytesIn : MethodName := ⟨RX11, "bytesIn", "(I)I"⟩
abbrev cX11_put : ByteArray := prog_13_method_6_code
def yX11_put : MethodName := ⟨RX11, "put", "(I)V"⟩
abbrev cX11_feed : ByteArray := prog_13_method_7_code
def yX11_feed : MethodName := ⟨RX11, "feed", "(IIIII)I"⟩
abbrev cX11_end : ByteArray := prog_13_method_8_code
def yX11_end : MethodName := ⟨RX11, "end", "(I)Z"⟩
abbrev cX11_look : ByteArray := prog_13_method_9_code
def yX11_look : MethodName := ⟨RX11, "look", "()I"⟩
abbrev cX11_fails : ByteArray := prog_13_method_10_code
def yX11_fails : MethodName := ⟨RX11, "fails", "()Z"⟩
abbrev cX11_goesIn : ByteArray := prog_13_method_11_code
def yX11_goesIn : MethodName := ⟨RX11, "goesIn", "()Z"⟩
abbrev cX11_takes : ByteArray := prog_13_method_12_code
def yX11_takes : MethodName := ⟨RX11, "takes", "(I)Z"⟩
abbrev cX11_isDigit : ByteArray := prog_13_method_13_code
def yX11_isDigit : MethodName := ⟨RX11, "isDigit", "()Z"⟩
abbrev cX11_within : ByteArray := prog_13_method_14_code
def yX11_within : MethodName := ⟨RX11, "within", "(J)I"⟩
abbrev cX11_atom : ByteArray := prog_13_method_15_code
def yX11_atom : MethodName := ⟨RX11, "atom", "()I"⟩
abbrev cX11_term : ByteArray := prog_13_method_16_code
def yX11_term : MethodName := ⟨RX11, "term", "()I"⟩
abbrev cX11_sum : ByteArray := prog_13_method_17_code
def yX11_sum : MethodName := ⟨RX11, "sum", "()I"⟩
abbrev cX11_isSign : ByteArray := prog_13_method_18_code
def yX11_isSign : MethodName := ⟨RX11, "isSign", "(I)Z"⟩
abbrev cX11_compares : ByteArray := prog_13_method_19_code
def yX11_compares : MethodName := ⟨RX11, "compares", "(ZI)Z"⟩
abbrev cX11_unit : ByteArray := prog_13_method_20_code
def yX11_unit : MethodName := ⟨RX11, "unit", "()Z"⟩
abbrev cX11_part : ByteArray := prog_13_method_21_code
def yX11_part : MethodName := ⟨RX11, "part", "(ZI)Z"⟩
abbrev cX11_condition : ByteArray := prog_13_method_22_code
def yX11_condition : MethodName := ⟨RX11, "condition", "(ZI)Z"⟩
abbrev cX11_ruleClause : ByteArray := prog_13_method_23_code
def yX11_ruleClause : MethodName := ⟨RX11, "ruleClause", "()V"⟩
abbrev cX11_opens : ByteArray := prog_13_method_24_code
def yX11_opens : MethodName := ⟨RX11, "opens", "([BII)V"⟩
abbrev cX11_goThrough : ByteArray := prog_13_method_25_code
def yX11_goThrough : MethodName := ⟨RX11, "goThrough", "([BII)V"⟩
abbrev cX11_readClause : ByteArray := prog_13_method_26_code
def yX11_readClause : MethodName := ⟨RX11, "readClause", "()I"⟩
abbrev cX11_readLaw : ByteArray := prog_13_method_27_code
def yX11_readLaw : MethodName := ⟨RX11, "readLaw", "()V"⟩
abbrev cX11_fault : ByteArray := prog_13_method_28_code
def yX11_fault : MethodName := ⟨RX11, "fault", "(I)I"⟩
abbrev cX11_text : ByteArray := prog_13_method_29_code
def yX11_text : MethodName := ⟨RX11, "text", "(I)I"⟩
abbrev cX11_isLaw : ByteArray := prog_13_method_30_code
def yX11_isLaw : MethodName := ⟨RX11, "isLaw", "(I)Z"⟩
abbrev cX11_isFace : ByteArray := prog_13_method_31_code
def yX11_isFace : MethodName := ⟨RX11, "isFace", "(I)Z"⟩
abbrev cX11_isDeed : ByteArray := prog_13_method_32_code
def yX11_isDeed : MethodName := ⟨RX11, "isDeed", "(I)Z"⟩
abbrev cX11_isClause : ByteArray := prog_13_method_33_code
def yX11_isClause : MethodName := ⟨RX11, "isClause", "(I)Z"⟩
abbrev cX11_clause : ByteArray := prog_13_method_34_code
def yX11_clause : MethodName := ⟨RX11, "clause", "(II)I"⟩
abbrev cX11_areTwelve : ByteArray := prog_13_method_35_code
def yX11_areTwelve : MethodName := ⟨RX11, "areTwelve", "(IIIIII)Z"⟩
abbrev cX11_lay : ByteArray := prog_13_method_36_code
def yX11_lay : MethodName := ⟨RX11, "lay", "([IIIIIIII)V"⟩
abbrev cX11_weigh : ByteArray := prog_13_method_37_code
def yX11_weigh : MethodName := ⟨RX11, "weigh", "(IIIIIII)Z"⟩
abbrev cX11_weight : ByteArray := prog_13_method_38_code
def yX11_weight : MethodName := ⟨RX11, "weight", "(II)I"⟩
abbrev cX11_suspect : ByteArray := prog_13_method_39_code
def yX11_suspect : MethodName := ⟨RX11, "suspect", "(IIIIII)Z"⟩
abbrev cX11_amend : ByteArray := prog_13_method_40_code
def yX11_amend : MethodName := ⟨RX11, "amend", "(III)Z"⟩
abbrev cX11_shown : ByteArray := prog_13_method_41_code
def yX11_shown : MethodName := ⟨RX11, "shown", "(I)I"⟩
abbrev cX11_heldYesterday : ByteArray := prog_13_method_42_code
def yX11_heldYesterday : MethodName := ⟨RX11, "heldYesterday", "(I)I"⟩
abbrev cX11_holdOf : ByteArray := prog_13_method_43_code
def yX11_holdOf : MethodName := ⟨RX11, "holdOf", "(I)I"⟩
abbrev cX11_layHolds : ByteArray := prog_13_method_44_code
def yX11_layHolds : MethodName := ⟨RX11, "layHolds", "()V"⟩
abbrev cX11_manyOf : ByteArray := prog_13_method_45_code
def yX11_manyOf : MethodName := ⟨RX11, "manyOf", "([IIII)I"⟩
abbrev cX11_counts : ByteArray := prog_13_method_46_code
def yX11_counts : MethodName := ⟨RX11, "counts", "([III)I"⟩
abbrev cX11_isLawfulBy : ByteArray := prog_13_method_47_code
def yX11_isLawfulBy : MethodName := ⟨RX11, "isLawfulBy", "([III)Z"⟩
abbrev cX11_isMustBy : ByteArray := prog_13_method_48_code
def yX11_isMustBy : MethodName := ⟨RX11, "isMustBy", "([III)Z"⟩
abbrev cX11_thrower : ByteArray := prog_13_method_49_code
def yX11_thrower : MethodName := ⟨RX11, "thrower", "()I"⟩
abbrev cX11_seed : ByteArray := prog_13_method_50_code
def yX11_seed : MethodName := ⟨RX11, "seed", "(J)V"⟩
abbrev cX11_throwDie : ByteArray := prog_13_method_51_code
def yX11_throwDie : MethodName := ⟨RX11, "throwDie", "(I)V"⟩
abbrev cX11_keepDawn : ByteArray := prog_13_method_52_code
def yX11_keepDawn : MethodName := ⟨RX11, "keepDawn", "(IJ)I"⟩
abbrev cX11_dawn : ByteArray := prog_13_method_53_code
def yX11_dawn : MethodName := ⟨RX11, "dawn", "()I"⟩
abbrev cX11_told : ByteArray := prog_13_method_54_code
def yX11_told : MethodName := ⟨RX11, "told", "(I)I"⟩
abbrev cX11_undo : ByteArray := prog_13_method_55_code
def yX11_undo : MethodName := ⟨RX11, "undo", "()I"⟩
abbrev cX11_isDay : ByteArray := prog_13_method_56_code
def yX11_isDay : MethodName := ⟨RX11, "isDay", "(I)Z"⟩
abbrev cX11_day : ByteArray := prog_13_method_57_code
def yX11_day : MethodName := ⟨RX11, "day", "(II)I"⟩
abbrev cX11_held : ByteArray := prog_13_method_58_code
def yX11_held : MethodName := ⟨RX11, "held", "(II)I"⟩
abbrev cX11_isLawful : ByteArray := prog_13_method_59_code
def yX11_isLawful : MethodName := ⟨RX11, "isLawful", "(II)Z"⟩
abbrev cX11_isDue : ByteArray := prog_13_method_60_code
def yX11_isDue : MethodName := ⟨RX11, "isDue", "(II)Z"⟩
abbrev cX11_deed : ByteArray := prog_13_method_61_code
def yX11_deed : MethodName := ⟨RX11, "deed", "(III)I"⟩
abbrev cX11_isSo : ByteArray := prog_13_method_62_code
def yX11_isSo : MethodName := ⟨RX11, "isSo", "(I)Z"⟩
abbrev cX11_facesNow : ByteArray := prog_13_method_63_code
def yX11_facesNow : MethodName := ⟨RX11, "facesNow", "()I"⟩
abbrev cX11_fall : ByteArray := prog_13_method_64_code
def yX11_fall : MethodName := ⟨RX11, "fall", "(IJ)V"⟩
abbrev cX11_throwAll : ByteArray := prog_13_method_65_code
def yX11_throwAll : MethodName := ⟨RX11, "throwAll", "(IJ)V"⟩
abbrev cX11_tallyOf : ByteArray := prog_13_method_66_code
def yX11_tallyOf : MethodName := ⟨RX11, "tallyOf", "(III)J"⟩
abbrev cX11_whole : ByteArray := prog_13_method_67_code
def yX11_whole : MethodName := ⟨RX11, "whole", "()J"⟩
abbrev cX11_partOf : ByteArray := prog_13_method_68_code
def yX11_partOf : MethodName := ⟨RX11, "partOf", "(JI)J"⟩
abbrev cX11_partBy : ByteArray := prog_13_method_69_code
def yX11_partBy : MethodName := ⟨RX11, "partBy", "(JJI)J"⟩
abbrev cX11_isPart : ByteArray := prog_13_method_70_code
def yX11_isPart : MethodName := ⟨RX11, "isPart", "(I)Z"⟩
abbrev cX11_odds : ByteArray := prog_13_method_71_code
def yX11_odds : MethodName := ⟨RX11, "odds", "(III)J"⟩
abbrev cX11_both : ByteArray := prog_13_method_72_code
def yX11_both : MethodName := ⟨RX11, "both", "(III)J"⟩
abbrev cX11_free : ByteArray := prog_13_method_73_code
def yX11_free : MethodName := ⟨RX11, "free", "(I)J"⟩
abbrev cX11_holds : ByteArray := prog_13_method_74_code
def yX11_holds : MethodName := ⟨RX11, "holds", "(III)J"⟩
abbrev cX11_again : ByteArray := prog_13_method_75_code
def yX11_again : MethodName := ⟨RX11, "again", "(II)J"⟩
abbrev cX11_sure : ByteArray := prog_13_method_76_code
def yX11_sure : MethodName := ⟨RX11, "sure", "(I)I"⟩
abbrev cX11_isWait : ByteArray := prog_13_method_77_code
def yX11_isWait : MethodName := ⟨RX11, "isWait", "(II)Z"⟩
abbrev cX11_waits : ByteArray := prog_13_method_78_code
def yX11_waits : MethodName := ⟨RX11, "waits", "(II)I"⟩
abbrev cX11_value : ByteArray := prog_13_method_79_code
def yX11_value : MethodName := ⟨RX11, "value", "(IIII)J"⟩
abbrev cX11_did : ByteArray := prog_13_method_80_code
def yX11_did : MethodName := ⟨RX11, "did", "(III)Z"⟩
abbrev cX11_isPerson : ByteArray := prog_13_method_81_code
def yX11_isPerson : MethodName := ⟨RX11, "isPerson", "(I)Z"⟩
abbrev cX11_act : ByteArray := prog_13_method_82_code
def yX11_act : MethodName := ⟨RX11, "act", "(III)I"⟩
abbrev cX11_suit : ByteArray := prog_13_method_83_code
def yX11_suit : MethodName := ⟨RX11, "suit", "(II)I"⟩
abbrev cX11_isNamed : ByteArray := prog_13_method_84_code
def yX11_isNamed : MethodName := ⟨RX11, "isNamed", "(III)Z"⟩
abbrev cX11_isDoubt : ByteArray := prog_13_method_85_code
def yX11_isDoubt : MethodName := ⟨RX11, "isDoubt", "(II)Z"⟩
abbrev cX11_named : ByteArray := prog_13_method_86_code
def yX11_named : MethodName := ⟨RX11, "named", "(III)I"⟩
abbrev cX11_enough : ByteArray := prog_13_method_87_code
def yX11_enough : MethodName := ⟨RX11, "enough", "(II)I"⟩
abbrev cX11_amendedBy : ByteArray := prog_13_method_88_code
def yX11_amendedBy : MethodName := ⟨RX11, "amendedBy", "(IIIIJ)J"⟩
abbrev cX11_amended : ByteArray := prog_13_method_89_code
def yX11_amended : MethodName := ⟨RX11, "amended", "(IIII)J"⟩
abbrev cX11_help : ByteArray := prog_13_method_90_code
def yX11_help : MethodName := ⟨RX11, "help", "(II)J"⟩
abbrev cX11_follow : ByteArray := prog_13_method_91_code
def yX11_follow : MethodName := ⟨RX11, "follow", "(III)I"⟩
abbrev cX11_lawfulGiven : ByteArray := prog_13_method_92_code
def yX11_lawfulGiven : MethodName := ⟨RX11, "lawfulGiven", "(III)J"⟩
abbrev cX11_given : ByteArray := prog_13_method_93_code
def yX11_given : MethodName := ⟨RX11, "given", "(IIII)J"⟩
abbrev cX11_harm : ByteArray := prog_13_method_94_code
def yX11_harm : MethodName := ⟨RX11, "harm", "(I)I"⟩
abbrev cX11_layWays : ByteArray := prog_13_method_95_code
def yX11_layWays : MethodName := ⟨RX11, "layWays", "()V"⟩
abbrev cX11_likeliest : ByteArray := prog_13_method_96_code
def yX11_likeliest : MethodName := ⟨RX11, "likeliest", "(I)J"⟩
abbrev cX11_apart : ByteArray := prog_13_method_97_code
def yX11_apart : MethodName := ⟨RX11, "apart", "(II)I"⟩
abbrev cX11_mean : ByteArray := prog_13_method_98_code
def yX11_mean : MethodName := ⟨RX11, "mean", "(I)J"⟩
abbrev cX11_change : ByteArray := prog_13_method_99_code
def yX11_change : MethodName := ⟨RX11, "change", "(IIII)J"⟩
abbrev cX11_run : ByteArray := prog_13_method_100_code
def yX11_run : MethodName := ⟨RX11, "run", "(II)I"⟩
abbrev cX11_isPeace : ByteArray := prog_13_method_101_code
def yX11_isPeace : MethodName := ⟨RX11, "isPeace", "(I)Z"⟩
abbrev cX11_peace : ByteArray := prog_13_method_102_code
def yX11_peace : MethodName := ⟨RX11, "peace", "(I)I"⟩
abbrev cX11_idle : ByteArray := prog_13_method_103_code
def yX11_idle : MethodName := ⟨RX11, "idle", "(I)I"⟩
abbrev cX11_busiest : ByteArray := prog_13_method_104_code
def yX11_busiest : MethodName := ⟨RX11, "busiest", "()I"⟩
abbrev cX11_keep : ByteArray := prog_13_method_105_code
def yX11_keep : MethodName := ⟨RX11, "keep", "([I)V"⟩
abbrev cX11_bring : ByteArray := prog_13_method_106_code
def yX11_bring : MethodName := ⟨RX11, "bring", "([I)V"⟩
abbrev cX11_image : ByteArray := prog_13_method_107_code
def yX11_image : MethodName := ⟨RX11, "image", "()I"⟩
abbrev cX11_back : ByteArray := prog_13_method_108_code
def yX11_back : MethodName := ⟨RX11, "back", "()I"⟩
abbrev cX11_count : ByteArray := prog_13_method_109_code
def yX11_count : MethodName := ⟨RX11, "count", "(I)I"⟩
def RJ6 : String := "java/lang/Integer"
abbrev cJ6_bitCount_0f7a4 : ByteArray := prog_18_method_49_code
def yJ6_bitCount_0f7a4 : MethodName := ⟨RJ6, "bitCount", "(I)I"⟩
def RJ9 : String := "java/lang/Math"
abbrev cJ9_max_f86c9 : ByteArray := prog_19_method_66_code
def yJ9_max_f86c9 : MethodName := ⟨RJ9, "max", "(JJ)J"⟩
abbrev cJ9_min_7cf53 : ByteArray := prog_19_method_69_code
def yJ9_min_7cf53 : MethodName := ⟨RJ9, "min", "(II)I"⟩
abbrev cJ9_min_f86c9 : ByteArray := prog_19_method_70_code
def yJ9_min_f86c9 : MethodName := ⟨RJ9, "min", "(JJ)J"⟩
def RL : String := "DiceLawLaw"
abbrev cL_clause : ByteArray := method_3_code
def yL_clause : MethodName := ⟨RL, "clause", "(LDiceLaw;II[J)I"⟩
abbrev cL_law : ByteArray := code
def yL_law : MethodName := ⟨RL, "law", "([I)Z"⟩
theorem inX0 : ∀ w ∈ wsX00, w ∈ lw_tbl := fun w h => List.mem_append_right _ ((by decide +kernel : ∀ w ∈ wsX00, w ∈ tables_1) w h)
theorem inX1 : ∀ w ∈ wsX10, w ∈ lw_tbl := fun w h => List.mem_append_right _ ((by decide +kernel : ∀ w ∈ wsX10, w ∈ tables_1) w h)
theorem inX2 : ∀ w ∈ wsX20, w ∈ lw_tbl := fun w h => List.mem_append_right _ ((by decide +kernel : ∀ w ∈ wsX20, w ∈ tables_1) w h)
theorem inX3 : ∀ w ∈ wsX30, w ∈ lw_tbl := fun w h => List.mem_append_right _ ((by decide +kernel : ∀ w ∈ wsX30, w ∈ tables_1) w h)
theorem inX4 : ∀ w ∈ wsX40, w ∈ lw_tbl := fun w h => List.mem_append_right _ ((by decide +kernel : ∀ w ∈ wsX40, w ∈ tables_1) w h)
theorem inX5 : ∀ w ∈ wsX50, w ∈ lw_tbl := fun w h => List.mem_append_right _ ((by decide +kernel : ∀ w ∈ wsX50, w ∈ tables_1) w h)
theorem inX6 : ∀ w ∈ wsX60, w ∈ lw_tbl := fun w h => List.mem_append_right _ ((by decide +kernel : ∀ w ∈ wsX60, w ∈ tables_1) w h)
theorem inX7 : ∀ w ∈ wsX70, w ∈ lw_tbl := fun w h => List.mem_append_right _ ((by decide +kernel : ∀ w ∈ wsX70, w ∈ tables_1) w h)
theorem inX8 : ∀ w ∈ wsX80, w ∈ lw_tbl := fun w h => List.mem_append_right _ ((by decide +kernel : ∀ w ∈ wsX80, w ∈ tables_1) w h)
theorem inX9 : ∀ w ∈ wsX90, w ∈ lw_tbl := fun w h => List.mem_append_right _ ((by decide +kernel : ∀ w ∈ wsX90, w ∈ tables_1) w h)
theorem inX10 : ∀ w ∈ wsX100, w ∈ lw_tbl := fun w h => List.mem_append_right _ ((by decide +kernel : ∀ w ∈ wsX100, w ∈ tables_1) w h)
theorem inX11 : ∀ w ∈ wsX110, w ∈ lw_tbl := fun w h => List.mem_append_right _ ((by decide +kernel : ∀ w ∈ wsX110, w ∈ tables_1) w h)
