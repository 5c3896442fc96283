-- ===== PART A: goes FIRST, ahead of the names: the tables' words, and 'selects' of the private methods out of them =====
/-- a private method of a class that the tables say can be made, by its rows of tables_1 -/
def lw_okq (q : MethodName × Nat) : Prop := (q.1.cls ≠ "java/lang/invoke/MethodHandle" ∧ q.1.cls ≠ "java/lang/invoke/VarHandle") ∧ Cond.instantiable q.1.cls q.2 ∈ tables_1 ∧ Cond.privateMethod q.1 ∈ tables_1 ∧ Cond.instanceMethod q.1 ∈ tables_1
theorem lw_p0 : lw_okq (⟨"OpenFields", "startLaw", "(II)V"⟩, 17) := ⟨⟨by decide +kernel, by decide +kernel⟩, List.mem_of_getElem? (i := 21) (by decide +kernel), List.mem_of_getElem? (i := 187) (by decide +kernel), List.mem_of_getElem? (i := 188) (by decide +kernel)⟩
theorem lw_p1 : lw_okq (⟨"OpenFields", "enact", "(II)I"⟩, 17) := ⟨⟨by decide +kernel, by decide +kernel⟩, List.mem_of_getElem? (i := 21) (by decide +kernel), List.mem_of_getElem? (i := 216) (by decide +kernel), List.mem_of_getElem? (i := 217) (by decide +kernel)⟩
theorem lw_p2 : lw_okq (⟨"OpenFields$Reader", "begin", "()V"⟩, 8) := ⟨⟨by decide +kernel, by decide +kernel⟩, List.mem_of_getElem? (i := 56) (by decide +kernel), List.mem_of_getElem? (i := 224) (by decide +kernel), List.mem_of_getElem? (i := 225) (by decide +kernel)⟩
theorem lw_p3 : lw_okq (⟨"OpenFields$Reader", "readOperand", "(I)Z"⟩, 8) := ⟨⟨by decide +kernel, by decide +kernel⟩, List.mem_of_getElem? (i := 56) (by decide +kernel), List.mem_of_getElem? (i := 228) (by decide +kernel), List.mem_of_getElem? (i := 229) (by decide +kernel)⟩
theorem lw_p4 : lw_okq (⟨"OpenFields$Reader", "letWait", "(I)V"⟩, 8) := ⟨⟨by decide +kernel, by decide +kernel⟩, List.mem_of_getElem? (i := 56) (by decide +kernel), List.mem_of_getElem? (i := 326) (by decide +kernel), List.mem_of_getElem? (i := 327) (by decide +kernel)⟩
theorem lw_p5 : lw_okq (⟨"OpenFields$Reader", "openParenthesis", "()Z"⟩, 8) := ⟨⟨by decide +kernel, by decide +kernel⟩, List.mem_of_getElem? (i := 56) (by decide +kernel), List.mem_of_getElem? (i := 330) (by decide +kernel), List.mem_of_getElem? (i := 331) (by decide +kernel)⟩
theorem lw_p6 : lw_okq (⟨"OpenFields$Reader", "readBehindOperand", "(I)Z"⟩, 8) := ⟨⟨by decide +kernel, by decide +kernel⟩, List.mem_of_getElem? (i := 56) (by decide +kernel), List.mem_of_getElem? (i := 334) (by decide +kernel), List.mem_of_getElem? (i := 335) (by decide +kernel)⟩
theorem lw_p7 : lw_okq (⟨"OpenFields$Reader", "closeParenthesis", "()Z"⟩, 8) := ⟨⟨by decide +kernel, by decide +kernel⟩, List.mem_of_getElem? (i := 56) (by decide +kernel), List.mem_of_getElem? (i := 342) (by decide +kernel), List.mem_of_getElem? (i := 343) (by decide +kernel)⟩
theorem lw_p8 : lw_okq (⟨"OpenFields$Reader", "writeWaiting", "(I)V"⟩, 8) := ⟨⟨by decide +kernel, by decide +kernel⟩, List.mem_of_getElem? (i := 56) (by decide +kernel), List.mem_of_getElem? (i := 346) (by decide +kernel), List.mem_of_getElem? (i := 347) (by decide +kernel)⟩
theorem lw_p9 : lw_okq (⟨"OpenFields$Reader", "noteComparison", "(I)Z"⟩, 8) := ⟨⟨by decide +kernel, by decide +kernel⟩, List.mem_of_getElem? (i := 56) (by decide +kernel), List.mem_of_getElem? (i := 354) (by decide +kernel), List.mem_of_getElem? (i := 355) (by decide +kernel)⟩
theorem lw_p10 : lw_okq (⟨"OpenFields$Reader", "readOperator", "(II)Z"⟩, 8) := ⟨⟨by decide +kernel, by decide +kernel⟩, List.mem_of_getElem? (i := 56) (by decide +kernel), List.mem_of_getElem? (i := 358) (by decide +kernel), List.mem_of_getElem? (i := 359) (by decide +kernel)⟩
theorem lw_p11 : lw_okq (⟨"OpenFields", "isHouse", "(I)Z"⟩, 17) := ⟨⟨by decide +kernel, by decide +kernel⟩, List.mem_of_getElem? (i := 21) (by decide +kernel), List.mem_of_getElem? (i := 488) (by decide +kernel), List.mem_of_getElem? (i := 489) (by decide +kernel)⟩
theorem lw_p12 : lw_okq (⟨"OpenFields", "settleRights", "()I"⟩, 17) := ⟨⟨by decide +kernel, by decide +kernel⟩, List.mem_of_getElem? (i := 21) (by decide +kernel), List.mem_of_getElem? (i := 567) (by decide +kernel), List.mem_of_getElem? (i := 568) (by decide +kernel)⟩
theorem lw_p13 : lw_okq (⟨"OpenFields", "valueOf", "(ILOpenFields$House;LOpenFields$Strip;)I"⟩, 17) := ⟨⟨by decide +kernel, by decide +kernel⟩, List.mem_of_getElem? (i := 21) (by decide +kernel), List.mem_of_getElem? (i := 579) (by decide +kernel), List.mem_of_getElem? (i := 580) (by decide +kernel)⟩
theorem lw_p14 : lw_okq (⟨"OpenFields", "season", "(I)I"⟩, 17) := ⟨⟨by decide +kernel, by decide +kernel⟩, List.mem_of_getElem? (i := 21) (by decide +kernel), List.mem_of_getElem? (i := 583) (by decide +kernel), List.mem_of_getElem? (i := 584) (by decide +kernel)⟩
theorem lw_p15 : lw_okq (⟨"OpenFields$Reckoner", "named", "(I)I"⟩, 2) := ⟨⟨by decide +kernel, by decide +kernel⟩, List.mem_of_getElem? (i := 112) (by decide +kernel), List.mem_of_getElem? (i := 591) (by decide +kernel), List.mem_of_getElem? (i := 592) (by decide +kernel)⟩
def lw_privs_1 : List (MethodName × Nat) := [(⟨"OpenFields", "startLaw", "(II)V"⟩, 17), (⟨"OpenFields", "enact", "(II)I"⟩, 17), (⟨"OpenFields$Reader", "begin", "()V"⟩, 8), (⟨"OpenFields$Reader", "readOperand", "(I)Z"⟩, 8), (⟨"OpenFields$Reader", "letWait", "(I)V"⟩, 8), (⟨"OpenFields$Reader", "openParenthesis", "()Z"⟩, 8), (⟨"OpenFields$Reader", "readBehindOperand", "(I)Z"⟩, 8), (⟨"OpenFields$Reader", "closeParenthesis", "()Z"⟩, 8), (⟨"OpenFields$Reader", "writeWaiting", "(I)V"⟩, 8), (⟨"OpenFields$Reader", "noteComparison", "(I)Z"⟩, 8), (⟨"OpenFields$Reader", "readOperator", "(II)Z"⟩, 8), (⟨"OpenFields", "isHouse", "(I)Z"⟩, 17), (⟨"OpenFields", "settleRights", "()I"⟩, 17), (⟨"OpenFields", "valueOf", "(ILOpenFields$House;LOpenFields$Strip;)I"⟩, 17), (⟨"OpenFields", "season", "(I)I"⟩, 17), (⟨"OpenFields$Reckoner", "named", "(I)I"⟩, 2)]
theorem lw_r1 : ∀ q ∈ lw_privs_1, lw_okq q := List.forall_mem_cons.mpr ⟨lw_p0, List.forall_mem_cons.mpr ⟨lw_p1, List.forall_mem_cons.mpr ⟨lw_p2, List.forall_mem_cons.mpr ⟨lw_p3, List.forall_mem_cons.mpr ⟨lw_p4, List.forall_mem_cons.mpr ⟨lw_p5, List.forall_mem_cons.mpr ⟨lw_p6, List.forall_mem_cons.mpr ⟨lw_p7, List.forall_mem_cons.mpr ⟨lw_p8, List.forall_mem_cons.mpr ⟨lw_p9, List.forall_mem_cons.mpr ⟨lw_p10, List.forall_mem_cons.mpr ⟨lw_p11, List.forall_mem_cons.mpr ⟨lw_p12, List.forall_mem_cons.mpr ⟨lw_p13, List.forall_mem_cons.mpr ⟨lw_p14, List.forall_mem_cons.mpr ⟨lw_p15, fun _ h => absurd h List.not_mem_nil⟩⟩⟩⟩⟩⟩⟩⟩⟩⟩⟩⟩⟩⟩⟩⟩
theorem lw_p16 : lw_okq (⟨"OpenFields", "isStrip", "(I)Z"⟩, 17) := ⟨⟨by decide +kernel, by decide +kernel⟩, List.mem_of_getElem? (i := 21) (by decide +kernel), List.mem_of_getElem? (i := 602) (by decide +kernel), List.mem_of_getElem? (i := 603) (by decide +kernel)⟩
theorem lw_p17 : lw_okq (⟨"OpenFields", "maySow", "(LOpenFields$Strip;)Z"⟩, 17) := ⟨⟨by decide +kernel, by decide +kernel⟩, List.mem_of_getElem? (i := 21) (by decide +kernel), List.mem_of_getElem? (i := 606) (by decide +kernel), List.mem_of_getElem? (i := 607) (by decide +kernel)⟩
theorem lw_p18 : lw_okq (⟨"OpenFields", "lateness", "(I)I"⟩, 17) := ⟨⟨by decide +kernel, by decide +kernel⟩, List.mem_of_getElem? (i := 21) (by decide +kernel), List.mem_of_getElem? (i := 610) (by decide +kernel), List.mem_of_getElem? (i := 611) (by decide +kernel)⟩
theorem lw_p19 : lw_okq (⟨"OpenFields", "growStrips", "()V"⟩, 17) := ⟨⟨by decide +kernel, by decide +kernel⟩, List.mem_of_getElem? (i := 21) (by decide +kernel), List.mem_of_getElem? (i := 637) (by decide +kernel), List.mem_of_getElem? (i := 638) (by decide +kernel)⟩
theorem lw_p20 : lw_okq (⟨"OpenFields", "grazeHerd", "()V"⟩, 17) := ⟨⟨by decide +kernel, by decide +kernel⟩, List.mem_of_getElem? (i := 21) (by decide +kernel), List.mem_of_getElem? (i := 648) (by decide +kernel), List.mem_of_getElem? (i := 649) (by decide +kernel)⟩
theorem lw_p21 : lw_okq (⟨"OpenFields", "nextPasture", "()LOpenFields$Strip;"⟩, 17) := ⟨⟨by decide +kernel, by decide +kernel⟩, List.mem_of_getElem? (i := 21) (by decide +kernel), List.mem_of_getElem? (i := 652) (by decide +kernel), List.mem_of_getElem? (i := 653) (by decide +kernel)⟩
theorem lw_p22 : lw_okq (⟨"OpenFields", "isOpen", "(LOpenFields$Strip;)Z"⟩, 17) := ⟨⟨by decide +kernel, by decide +kernel⟩, List.mem_of_getElem? (i := 21) (by decide +kernel), List.mem_of_getElem? (i := 656) (by decide +kernel), List.mem_of_getElem? (i := 657) (by decide +kernel)⟩
theorem lw_p23 : lw_okq (⟨"OpenFields", "eatFromBarns", "()V"⟩, 17) := ⟨⟨by decide +kernel, by decide +kernel⟩, List.mem_of_getElem? (i := 21) (by decide +kernel), List.mem_of_getElem? (i := 664) (by decide +kernel), List.mem_of_getElem? (i := 665) (by decide +kernel)⟩
theorem lw_p24 : lw_okq (⟨"OpenFields", "beginWeek", "()V"⟩, 17) := ⟨⟨by decide +kernel, by decide +kernel⟩, List.mem_of_getElem? (i := 21) (by decide +kernel), List.mem_of_getElem? (i := 673) (by decide +kernel), List.mem_of_getElem? (i := 674) (by decide +kernel)⟩
theorem lw_p25 : lw_okq (⟨"OpenFields", "beginYear", "()V"⟩, 17) := ⟨⟨by decide +kernel, by decide +kernel⟩, List.mem_of_getElem? (i := 21) (by decide +kernel), List.mem_of_getElem? (i := 677) (by decide +kernel), List.mem_of_getElem? (i := 678) (by decide +kernel)⟩
theorem lw_p26 : lw_okq (⟨"OpenFields", "piecesOf", "(LOpenFields$House;)I"⟩, 17) := ⟨⟨by decide +kernel, by decide +kernel⟩, List.mem_of_getElem? (i := 21) (by decide +kernel), List.mem_of_getElem? (i := 693) (by decide +kernel), List.mem_of_getElem? (i := 694) (by decide +kernel)⟩
theorem lw_p27 : lw_okq (⟨"OpenFields", "mayExchange", "(LOpenFields$Strip;LOpenFields$Strip;)Z"⟩, 17) := ⟨⟨by decide +kernel, by decide +kernel⟩, List.mem_of_getElem? (i := 21) (by decide +kernel), List.mem_of_getElem? (i := 765) (by decide +kernel), List.mem_of_getElem? (i := 766) (by decide +kernel)⟩
theorem lw_p28 : lw_okq (⟨"OpenFields", "allPieces", "()I"⟩, 17) := ⟨⟨by decide +kernel, by decide +kernel⟩, List.mem_of_getElem? (i := 21) (by decide +kernel), List.mem_of_getElem? (i := 787) (by decide +kernel), List.mem_of_getElem? (i := 788) (by decide +kernel)⟩
theorem lw_p29 : lw_okq (⟨"OpenFields", "makeFirstBetter", "()Z"⟩, 17) := ⟨⟨by decide +kernel, by decide +kernel⟩, List.mem_of_getElem? (i := 21) (by decide +kernel), List.mem_of_getElem? (i := 795) (by decide +kernel), List.mem_of_getElem? (i := 796) (by decide +kernel)⟩
theorem lw_p30 : lw_okq (⟨"OpenFields", "isBetter", "(LOpenFields$Strip;LOpenFields$Strip;)Z"⟩, 17) := ⟨⟨by decide +kernel, by decide +kernel⟩, List.mem_of_getElem? (i := 21) (by decide +kernel), List.mem_of_getElem? (i := 799) (by decide +kernel), List.mem_of_getElem? (i := 800) (by decide +kernel)⟩
theorem lw_p31 : lw_okq (⟨"OpenFields$Deal", "gather", "(LOpenFields$Field;)V"⟩, 8) := ⟨⟨by decide +kernel, by decide +kernel⟩, List.mem_of_getElem? (i := 140) (by decide +kernel), List.mem_of_getElem? (i := 815) (by decide +kernel), List.mem_of_getElem? (i := 816) (by decide +kernel)⟩
def lw_privs_2 : List (MethodName × Nat) := [(⟨"OpenFields", "isStrip", "(I)Z"⟩, 17), (⟨"OpenFields", "maySow", "(LOpenFields$Strip;)Z"⟩, 17), (⟨"OpenFields", "lateness", "(I)I"⟩, 17), (⟨"OpenFields", "growStrips", "()V"⟩, 17), (⟨"OpenFields", "grazeHerd", "()V"⟩, 17), (⟨"OpenFields", "nextPasture", "()LOpenFields$Strip;"⟩, 17), (⟨"OpenFields", "isOpen", "(LOpenFields$Strip;)Z"⟩, 17), (⟨"OpenFields", "eatFromBarns", "()V"⟩, 17), (⟨"OpenFields", "beginWeek", "()V"⟩, 17), (⟨"OpenFields", "beginYear", "()V"⟩, 17), (⟨"OpenFields", "piecesOf", "(LOpenFields$House;)I"⟩, 17), (⟨"OpenFields", "mayExchange", "(LOpenFields$Strip;LOpenFields$Strip;)Z"⟩, 17), (⟨"OpenFields", "allPieces", "()I"⟩, 17), (⟨"OpenFields", "makeFirstBetter", "()Z"⟩, 17), (⟨"OpenFields", "isBetter", "(LOpenFields$Strip;LOpenFields$Strip;)Z"⟩, 17), (⟨"OpenFields$Deal", "gather", "(LOpenFields$Field;)V"⟩, 8)]
theorem lw_r2 : ∀ q ∈ lw_privs_2, lw_okq q := List.forall_mem_cons.mpr ⟨lw_p16, List.forall_mem_cons.mpr ⟨lw_p17, List.forall_mem_cons.mpr ⟨lw_p18, List.forall_mem_cons.mpr ⟨lw_p19, List.forall_mem_cons.mpr ⟨lw_p20, List.forall_mem_cons.mpr ⟨lw_p21, List.forall_mem_cons.mpr ⟨lw_p22, List.forall_mem_cons.mpr ⟨lw_p23, List.forall_mem_cons.mpr ⟨lw_p24, List.forall_mem_cons.mpr ⟨lw_p25, List.forall_mem_cons.mpr ⟨lw_p26, List.forall_mem_cons.mpr ⟨lw_p27, List.forall_mem_cons.mpr ⟨lw_p28, List.forall_mem_cons.mpr ⟨lw_p29, List.forall_mem_cons.mpr ⟨lw_p30, List.forall_mem_cons.mpr ⟨lw_p31, fun _ h => absurd h List.not_mem_nil⟩⟩⟩⟩⟩⟩⟩⟩⟩⟩⟩⟩⟩⟩⟩⟩
theorem lw_p32 : lw_okq (⟨"OpenFields$Deal", "ownerOf", "(LOpenFields$House;)I"⟩, 8) := ⟨⟨by decide +kernel, by decide +kernel⟩, List.mem_of_getElem? (i := 140) (by decide +kernel), List.mem_of_getElem? (i := 819) (by decide +kernel), List.mem_of_getElem? (i := 820) (by decide +kernel)⟩
theorem lw_p33 : lw_okq (⟨"OpenFields$Deal", "dealFrom", "(III)V"⟩, 8) := ⟨⟨by decide +kernel, by decide +kernel⟩, List.mem_of_getElem? (i := 140) (by decide +kernel), List.mem_of_getElem? (i := 825) (by decide +kernel), List.mem_of_getElem? (i := 826) (by decide +kernel)⟩
theorem lw_p34 : lw_okq (⟨"OpenFields$Deal", "piecesDue", "(I)I"⟩, 8) := ⟨⟨by decide +kernel, by decide +kernel⟩, List.mem_of_getElem? (i := 140) (by decide +kernel), List.mem_of_getElem? (i := 829) (by decide +kernel), List.mem_of_getElem? (i := 830) (by decide +kernel)⟩
theorem lw_p35 : lw_okq (⟨"OpenFields$Deal", "dealTo", "(III)V"⟩, 8) := ⟨⟨by decide +kernel, by decide +kernel⟩, List.mem_of_getElem? (i := 140) (by decide +kernel), List.mem_of_getElem? (i := 833) (by decide +kernel), List.mem_of_getElem? (i := 834) (by decide +kernel)⟩
theorem lw_p36 : lw_okq (⟨"OpenFields", "allMeasures", "()I"⟩, 17) := ⟨⟨by decide +kernel, by decide +kernel⟩, List.mem_of_getElem? (i := 21) (by decide +kernel), List.mem_of_getElem? (i := 842) (by decide +kernel), List.mem_of_getElem? (i := 843) (by decide +kernel)⟩
theorem lw_p37 : lw_okq (⟨"OpenFieldsModel", "faultOfTape", "()I"⟩, 43) := ⟨⟨by decide +kernel, by decide +kernel⟩, List.mem_of_getElem? (i := 846) (by decide +kernel), List.mem_of_getElem? (i := 994) (by decide +kernel), List.mem_of_getElem? (i := 995) (by decide +kernel)⟩
theorem lw_p38 : lw_okq (⟨"OpenFieldsModel", "isName", "(I)Z"⟩, 43) := ⟨⟨by decide +kernel, by decide +kernel⟩, List.mem_of_getElem? (i := 846) (by decide +kernel), List.mem_of_getElem? (i := 998) (by decide +kernel), List.mem_of_getElem? (i := 999) (by decide +kernel)⟩
theorem lw_p39 : lw_okq (⟨"OpenFieldsModel", "isRelation", "(I)Z"⟩, 43) := ⟨⟨by decide +kernel, by decide +kernel⟩, List.mem_of_getElem? (i := 846) (by decide +kernel), List.mem_of_getElem? (i := 1002) (by decide +kernel), List.mem_of_getElem? (i := 1003) (by decide +kernel)⟩
theorem lw_p40 : lw_okq (⟨"OpenFieldsModel", "comeIntoForce", "(I)V"⟩, 43) := ⟨⟨by decide +kernel, by decide +kernel⟩, List.mem_of_getElem? (i := 846) (by decide +kernel), List.mem_of_getElem? (i := 1006) (by decide +kernel), List.mem_of_getElem? (i := 1007) (by decide +kernel)⟩
theorem lw_p41 : lw_okq (⟨"OpenFieldsModel", "isHouse", "(I)Z"⟩, 43) := ⟨⟨by decide +kernel, by decide +kernel⟩, List.mem_of_getElem? (i := 846) (by decide +kernel), List.mem_of_getElem? (i := 1018) (by decide +kernel), List.mem_of_getElem? (i := 1019) (by decide +kernel)⟩
theorem lw_p42 : lw_okq (⟨"OpenFieldsModel", "isStrip", "(I)Z"⟩, 43) := ⟨⟨by decide +kernel, by decide +kernel⟩, List.mem_of_getElem? (i := 846) (by decide +kernel), List.mem_of_getElem? (i := 1022) (by decide +kernel), List.mem_of_getElem? (i := 1023) (by decide +kernel)⟩
theorem lw_p43 : lw_okq (⟨"OpenFieldsModel", "lawOf", "(III)I"⟩, 43) := ⟨⟨by decide +kernel, by decide +kernel⟩, List.mem_of_getElem? (i := 846) (by decide +kernel), List.mem_of_getElem? (i := 1026) (by decide +kernel), List.mem_of_getElem? (i := 1027) (by decide +kernel)⟩
theorem lw_p44 : lw_okq (⟨"OpenFieldsModel", "anyOf", "()I"⟩, 43) := ⟨⟨by decide +kernel, by decide +kernel⟩, List.mem_of_getElem? (i := 846) (by decide +kernel), List.mem_of_getElem? (i := 1030) (by decide +kernel), List.mem_of_getElem? (i := 1031) (by decide +kernel)⟩
theorem lw_p45 : lw_okq (⟨"OpenFieldsModel", "allOf", "()I"⟩, 43) := ⟨⟨by decide +kernel, by decide +kernel⟩, List.mem_of_getElem? (i := 846) (by decide +kernel), List.mem_of_getElem? (i := 1034) (by decide +kernel), List.mem_of_getElem? (i := 1035) (by decide +kernel)⟩
theorem lw_p46 : lw_okq (⟨"OpenFieldsModel", "notOf", "()I"⟩, 43) := ⟨⟨by decide +kernel, by decide +kernel⟩, List.mem_of_getElem? (i := 846) (by decide +kernel), List.mem_of_getElem? (i := 1038) (by decide +kernel), List.mem_of_getElem? (i := 1039) (by decide +kernel)⟩
theorem lw_p47 : lw_okq (⟨"OpenFieldsModel", "look", "()I"⟩, 43) := ⟨⟨by decide +kernel, by decide +kernel⟩, List.mem_of_getElem? (i := 846) (by decide +kernel), List.mem_of_getElem? (i := 1042) (by decide +kernel), List.mem_of_getElem? (i := 1043) (by decide +kernel)⟩
def lw_privs_3 : List (MethodName × Nat) := [(⟨"OpenFields$Deal", "ownerOf", "(LOpenFields$House;)I"⟩, 8), (⟨"OpenFields$Deal", "dealFrom", "(III)V"⟩, 8), (⟨"OpenFields$Deal", "piecesDue", "(I)I"⟩, 8), (⟨"OpenFields$Deal", "dealTo", "(III)V"⟩, 8), (⟨"OpenFields", "allMeasures", "()I"⟩, 17), (⟨"OpenFieldsModel", "faultOfTape", "()I"⟩, 43), (⟨"OpenFieldsModel", "isName", "(I)Z"⟩, 43), (⟨"OpenFieldsModel", "isRelation", "(I)Z"⟩, 43), (⟨"OpenFieldsModel", "comeIntoForce", "(I)V"⟩, 43), (⟨"OpenFieldsModel", "isHouse", "(I)Z"⟩, 43), (⟨"OpenFieldsModel", "isStrip", "(I)Z"⟩, 43), (⟨"OpenFieldsModel", "lawOf", "(III)I"⟩, 43), (⟨"OpenFieldsModel", "anyOf", "()I"⟩, 43), (⟨"OpenFieldsModel", "allOf", "()I"⟩, 43), (⟨"OpenFieldsModel", "notOf", "()I"⟩, 43), (⟨"OpenFieldsModel", "look", "()I"⟩, 43)]
theorem lw_r3 : ∀ q ∈ lw_privs_3, lw_okq q := List.forall_mem_cons.mpr ⟨lw_p32, List.forall_mem_cons.mpr ⟨lw_p33, List.forall_mem_cons.mpr ⟨lw_p34, List.forall_mem_cons.mpr ⟨lw_p35, List.forall_mem_cons.mpr ⟨lw_p36, List.forall_mem_cons.mpr ⟨lw_p37, List.forall_mem_cons.mpr ⟨lw_p38, List.forall_mem_cons.mpr ⟨lw_p39, List.forall_mem_cons.mpr ⟨lw_p40, List.forall_mem_cons.mpr ⟨lw_p41, List.forall_mem_cons.mpr ⟨lw_p42, List.forall_mem_cons.mpr ⟨lw_p43, List.forall_mem_cons.mpr ⟨lw_p44, List.forall_mem_cons.mpr ⟨lw_p45, List.forall_mem_cons.mpr ⟨lw_p46, List.forall_mem_cons.mpr ⟨lw_p47, fun _ h => absurd h List.not_mem_nil⟩⟩⟩⟩⟩⟩⟩⟩⟩⟩⟩⟩⟩⟩⟩⟩
theorem lw_p48 : lw_okq (⟨"OpenFieldsModel", "compareOf", "()I"⟩, 43) := ⟨⟨by decide +kernel, by decide +kernel⟩, List.mem_of_getElem? (i := 846) (by decide +kernel), List.mem_of_getElem? (i := 1046) (by decide +kernel), List.mem_of_getElem? (i := 1047) (by decide +kernel)⟩
theorem lw_p49 : lw_okq (⟨"OpenFieldsModel", "sumOf", "()I"⟩, 43) := ⟨⟨by decide +kernel, by decide +kernel⟩, List.mem_of_getElem? (i := 846) (by decide +kernel), List.mem_of_getElem? (i := 1050) (by decide +kernel), List.mem_of_getElem? (i := 1051) (by decide +kernel)⟩
theorem lw_p50 : lw_okq (⟨"OpenFieldsModel", "productOf", "()I"⟩, 43) := ⟨⟨by decide +kernel, by decide +kernel⟩, List.mem_of_getElem? (i := 846) (by decide +kernel), List.mem_of_getElem? (i := 1054) (by decide +kernel), List.mem_of_getElem? (i := 1055) (by decide +kernel)⟩
theorem lw_p51 : lw_okq (⟨"OpenFieldsModel", "oneOf", "()I"⟩, 43) := ⟨⟨by decide +kernel, by decide +kernel⟩, List.mem_of_getElem? (i := 846) (by decide +kernel), List.mem_of_getElem? (i := 1058) (by decide +kernel), List.mem_of_getElem? (i := 1059) (by decide +kernel)⟩
theorem lw_p52 : lw_okq (⟨"OpenFieldsModel", "nameOf", "(I)I"⟩, 43) := ⟨⟨by decide +kernel, by decide +kernel⟩, List.mem_of_getElem? (i := 846) (by decide +kernel), List.mem_of_getElem? (i := 1062) (by decide +kernel), List.mem_of_getElem? (i := 1063) (by decide +kernel)⟩
theorem lw_p53 : lw_okq (⟨"OpenFieldsModel", "use", "(I)I"⟩, 43) := ⟨⟨by decide +kernel, by decide +kernel⟩, List.mem_of_getElem? (i := 846) (by decide +kernel), List.mem_of_getElem? (i := 1066) (by decide +kernel), List.mem_of_getElem? (i := 1067) (by decide +kernel)⟩
theorem lw_p54 : lw_okq (⟨"OpenFieldsModel", "stripsOf", "(I)I"⟩, 43) := ⟨⟨by decide +kernel, by decide +kernel⟩, List.mem_of_getElem? (i := 846) (by decide +kernel), List.mem_of_getElem? (i := 1070) (by decide +kernel), List.mem_of_getElem? (i := 1071) (by decide +kernel)⟩
theorem lw_p55 : lw_okq (⟨"OpenFieldsModel", "held", "(I)I"⟩, 43) := ⟨⟨by decide +kernel, by decide +kernel⟩, List.mem_of_getElem? (i := 846) (by decide +kernel), List.mem_of_getElem? (i := 1091) (by decide +kernel), List.mem_of_getElem? (i := 1092) (by decide +kernel)⟩
theorem lw_p56 : lw_okq (⟨"OpenFieldsModel", "bears", "(I)I"⟩, 43) := ⟨⟨by decide +kernel, by decide +kernel⟩, List.mem_of_getElem? (i := 846) (by decide +kernel), List.mem_of_getElem? (i := 1111) (by decide +kernel), List.mem_of_getElem? (i := 1112) (by decide +kernel)⟩
theorem lw_p57 : lw_okq (⟨"OpenFieldsModel", "grow", "()V"⟩, 43) := ⟨⟨by decide +kernel, by decide +kernel⟩, List.mem_of_getElem? (i := 846) (by decide +kernel), List.mem_of_getElem? (i := 1119) (by decide +kernel), List.mem_of_getElem? (i := 1120) (by decide +kernel)⟩
theorem lw_p58 : lw_okq (⟨"OpenFieldsModel", "herd", "()V"⟩, 43) := ⟨⟨by decide +kernel, by decide +kernel⟩, List.mem_of_getElem? (i := 846) (by decide +kernel), List.mem_of_getElem? (i := 1123) (by decide +kernel), List.mem_of_getElem? (i := 1124) (by decide +kernel)⟩
theorem lw_p59 : lw_okq (⟨"OpenFieldsModel", "pasture", "()I"⟩, 43) := ⟨⟨by decide +kernel, by decide +kernel⟩, List.mem_of_getElem? (i := 846) (by decide +kernel), List.mem_of_getElem? (i := 1127) (by decide +kernel), List.mem_of_getElem? (i := 1128) (by decide +kernel)⟩
theorem lw_p60 : lw_okq (⟨"OpenFieldsModel", "isOpen", "(I)Z"⟩, 43) := ⟨⟨by decide +kernel, by decide +kernel⟩, List.mem_of_getElem? (i := 846) (by decide +kernel), List.mem_of_getElem? (i := 1131) (by decide +kernel), List.mem_of_getElem? (i := 1132) (by decide +kernel)⟩
theorem lw_p61 : lw_okq (⟨"OpenFieldsModel", "eat", "()V"⟩, 43) := ⟨⟨by decide +kernel, by decide +kernel⟩, List.mem_of_getElem? (i := 846) (by decide +kernel), List.mem_of_getElem? (i := 1135) (by decide +kernel), List.mem_of_getElem? (i := 1136) (by decide +kernel)⟩
theorem lw_p62 : lw_okq (⟨"OpenFieldsModel", "beginYear", "()V"⟩, 43) := ⟨⟨by decide +kernel, by decide +kernel⟩, List.mem_of_getElem? (i := 846) (by decide +kernel), List.mem_of_getElem? (i := 1139) (by decide +kernel), List.mem_of_getElem? (i := 1140) (by decide +kernel)⟩
theorem lw_p63 : lw_okq (⟨"OpenFieldsModel", "pieces", "(II)I"⟩, 43) := ⟨⟨by decide +kernel, by decide +kernel⟩, List.mem_of_getElem? (i := 846) (by decide +kernel), List.mem_of_getElem? (i := 1151) (by decide +kernel), List.mem_of_getElem? (i := 1152) (by decide +kernel)⟩
def lw_privs_4 : List (MethodName × Nat) := [(⟨"OpenFieldsModel", "compareOf", "()I"⟩, 43), (⟨"OpenFieldsModel", "sumOf", "()I"⟩, 43), (⟨"OpenFieldsModel", "productOf", "()I"⟩, 43), (⟨"OpenFieldsModel", "oneOf", "()I"⟩, 43), (⟨"OpenFieldsModel", "nameOf", "(I)I"⟩, 43), (⟨"OpenFieldsModel", "use", "(I)I"⟩, 43), (⟨"OpenFieldsModel", "stripsOf", "(I)I"⟩, 43), (⟨"OpenFieldsModel", "held", "(I)I"⟩, 43), (⟨"OpenFieldsModel", "bears", "(I)I"⟩, 43), (⟨"OpenFieldsModel", "grow", "()V"⟩, 43), (⟨"OpenFieldsModel", "herd", "()V"⟩, 43), (⟨"OpenFieldsModel", "pasture", "()I"⟩, 43), (⟨"OpenFieldsModel", "isOpen", "(I)Z"⟩, 43), (⟨"OpenFieldsModel", "eat", "()V"⟩, 43), (⟨"OpenFieldsModel", "beginYear", "()V"⟩, 43), (⟨"OpenFieldsModel", "pieces", "(II)I"⟩, 43)]
theorem lw_r4 : ∀ q ∈ lw_privs_4, lw_okq q := List.forall_mem_cons.mpr ⟨lw_p48, List.forall_mem_cons.mpr ⟨lw_p49, List.forall_mem_cons.mpr ⟨lw_p50, List.forall_mem_cons.mpr ⟨lw_p51, List.forall_mem_cons.mpr ⟨lw_p52, List.forall_mem_cons.mpr ⟨lw_p53, List.forall_mem_cons.mpr ⟨lw_p54, List.forall_mem_cons.mpr ⟨lw_p55, List.forall_mem_cons.mpr ⟨lw_p56, List.forall_mem_cons.mpr ⟨lw_p57, List.forall_mem_cons.mpr ⟨lw_p58, List.forall_mem_cons.mpr ⟨lw_p59, List.forall_mem_cons.mpr ⟨lw_p60, List.forall_mem_cons.mpr ⟨lw_p61, List.forall_mem_cons.mpr ⟨lw_p62, List.forall_mem_cons.mpr ⟨lw_p63, fun _ h => absurd h List.not_mem_nil⟩⟩⟩⟩⟩⟩⟩⟩⟩⟩⟩⟩⟩⟩⟩⟩
theorem lw_p64 : lw_okq (⟨"OpenFieldsModel", "exchange", "(II)Z"⟩, 43) := ⟨⟨by decide +kernel, by decide +kernel⟩, List.mem_of_getElem? (i := 846) (by decide +kernel), List.mem_of_getElem? (i := 1177) (by decide +kernel), List.mem_of_getElem? (i := 1178) (by decide +kernel)⟩
theorem lw_p65 : lw_okq (⟨"OpenFieldsModel", "changeOver", "(II)V"⟩, 43) := ⟨⟨by decide +kernel, by decide +kernel⟩, List.mem_of_getElem? (i := 846) (by decide +kernel), List.mem_of_getElem? (i := 1181) (by decide +kernel), List.mem_of_getElem? (i := 1182) (by decide +kernel)⟩
theorem lw_p66 : lw_okq (⟨"OpenFieldsModel", "isNear", "(I)Z"⟩, 43) := ⟨⟨by decide +kernel, by decide +kernel⟩, List.mem_of_getElem? (i := 846) (by decide +kernel), List.mem_of_getElem? (i := 1185) (by decide +kernel), List.mem_of_getElem? (i := 1186) (by decide +kernel)⟩
theorem lw_p67 : lw_okq (⟨"OpenFieldsModel", "betters", "()Z"⟩, 43) := ⟨⟨by decide +kernel, by decide +kernel⟩, List.mem_of_getElem? (i := 846) (by decide +kernel), List.mem_of_getElem? (i := 1193) (by decide +kernel), List.mem_of_getElem? (i := 1194) (by decide +kernel)⟩
theorem lw_p68 : lw_okq (⟨"OpenFieldsModel", "fewestFrom", "(II)I"⟩, 43) := ⟨⟨by decide +kernel, by decide +kernel⟩, List.mem_of_getElem? (i := 846) (by decide +kernel), List.mem_of_getElem? (i := 1201) (by decide +kernel), List.mem_of_getElem? (i := 1202) (by decide +kernel)⟩
def lw_privs_5 : List (MethodName × Nat) := [(⟨"OpenFieldsModel", "exchange", "(II)Z"⟩, 43), (⟨"OpenFieldsModel", "changeOver", "(II)V"⟩, 43), (⟨"OpenFieldsModel", "isNear", "(I)Z"⟩, 43), (⟨"OpenFieldsModel", "betters", "()Z"⟩, 43), (⟨"OpenFieldsModel", "fewestFrom", "(II)I"⟩, 43)]
theorem lw_r5 : ∀ q ∈ lw_privs_5, lw_okq q := List.forall_mem_cons.mpr ⟨lw_p64, List.forall_mem_cons.mpr ⟨lw_p65, List.forall_mem_cons.mpr ⟨lw_p66, List.forall_mem_cons.mpr ⟨lw_p67, List.forall_mem_cons.mpr ⟨lw_p68, fun _ h => absurd h List.not_mem_nil⟩⟩⟩⟩⟩
def lw_privs : List (MethodName × Nat) := lw_privs_1 ++ (lw_privs_2 ++ (lw_privs_3 ++ (lw_privs_4 ++ (lw_privs_5))))
def lw_tbl : List Cond := k2_sels lw_privs ++ tables_1
theorem lw_privs_ok : ∀ q ∈ lw_privs, lw_okq q := by
  show ∀ q ∈ lw_privs_1 ++ (lw_privs_2 ++ (lw_privs_3 ++ (lw_privs_4 ++ (lw_privs_5)))), lw_okq q
  exact List.forall_mem_append.mpr ⟨lw_r1, List.forall_mem_append.mpr ⟨lw_r2, List.forall_mem_append.mpr ⟨lw_r3, List.forall_mem_append.mpr ⟨lw_r4, lw_r5⟩⟩⟩⟩

def RL : String := "OpenFieldsLaw"
def RX0 : String := "OpenFields$Book"
def TX0 : u_T := fun k => match k with
  | 0 => ("OpenFields$Book", "entries", "[I", true)
  | _ => ("OpenFields$Book", "written", "I", false)
def tyX0 : Nat → FieldType := fun k => match k with
  | 0 => .array .int
  | _ => .int
theorem nmX0 : ∀ a, a < 2 → ∀ b, b < 2 → a ≠ b → (TX0 a).2.1 ≠ (TX0 b).2.1 := by decide +kernel
theorem tyX0_ok : ∀ k, k < 2 → parseFieldDescriptor (TX0 k).2.2.1 = some (tyX0 k) := by decide +kernel
abbrev cX0_init : ByteArray := prog_2_method_1_code
def yX0_init : MethodName := ⟨RX0, "<init>", "()V"⟩
abbrev cX0_lines : ByteArray := prog_2_method_2_code
def yX0_lines : MethodName := ⟨RX0, "lines", "()I"⟩
abbrev cX0_write : ByteArray := prog_2_method_3_code
def yX0_write : MethodName := ⟨RX0, "write", "(IIII)V"⟩
abbrev cX0_entry : ByteArray := prog_2_method_4_code
def yX0_entry : MethodName := ⟨RX0, "entry", "(II)I"⟩
def RX1 : String := "OpenFields$ByLaw"
def TX1 : u_T := fun k => match k with
  | 0 => ("OpenFields$ByLaw", "inForce", "LOpenFields$Text;", false)
  | 1 => ("OpenFields$ByLaw", "next", "LOpenFields$Text;", false)
  | 2 => ("OpenFields$ByLaw", "waiting", "Z", false)
  | _ => ("OpenFields$ByLaw", "from", "I", false)
def tyX1 : Nat → FieldType := fun k => match k with
  | 0 => .object "OpenFields$Text"
  | 1 => .object "OpenFields$Text"
  | 2 => .boolean
  | _ => .int
theorem nmX1 : ∀ a, a < 4 → ∀ b, b < 4 → a ≠ b → (TX1 a).2.1 ≠ (TX1 b).2.1 := by decide +kernel
theorem tyX1_ok : ∀ k, k < 4 → parseFieldDescriptor (TX1 k).2.2.1 = some (tyX1 k) := by decide +kernel
abbrev cX1_init : ByteArray := prog_3_method_1_code
def yX1_init : MethodName := ⟨RX1, "<init>", "()V"⟩
abbrev cX1_announce : ByteArray := prog_3_method_2_code
def yX1_announce : MethodName := ⟨RX1, "announce", "(LOpenFields$Text;I)LOpenFields$Text;"⟩
abbrev cX1_reach : ByteArray := prog_3_method_3_code
def yX1_reach : MethodName := ⟨RX1, "reach", "(I)V"⟩
def RX2 : String := "OpenFields$Deal"
def TX2 : u_T := fun k => match k with
  | 0 => ("OpenFields$Deal", "owners", "[LOpenFields$House;", true)
  | 1 => ("OpenFields$Deal", "left", "[I", true)
  | 2 => ("OpenFields$Deal", "holding", "[I", true)
  | 3 => ("OpenFields$Deal", "worths", "[I", true)
  | 4 => ("OpenFields$Deal", "ownerCount", "I", false)
  | 5 => ("OpenFields$Deal", "size", "I", false)
  | 6 => ("OpenFields$Deal", "apart", "I", false)
  | _ => ("OpenFields$Deal", "best", "I", false)
def tyX2 : Nat → FieldType := fun k => match k with
  | 0 => .array (.object "OpenFields$House")
  | 1 => .array .int
  | 2 => .array .int
  | 3 => .array .int
  | 4 => .int
  | 5 => .int
  | 6 => .int
  | _ => .int
theorem nmX2 : ∀ a, a < 8 → ∀ b, b < 8 → a ≠ b → (TX2 a).2.1 ≠ (TX2 b).2.1 := by decide +kernel
theorem tyX2_ok : ∀ k, k < 8 → parseFieldDescriptor (TX2 k).2.2.1 = some (tyX2 k) := by decide +kernel
abbrev cX2_init : ByteArray := prog_4_method_1_code
def yX2_init : MethodName := ⟨RX2, "<init>", "()V"⟩
abbrev cX2_fewestPieces : ByteArray := prog_4_method_2_code
def yX2_fewestPieces : MethodName := ⟨RX2, "fewestPieces", "(LOpenFields$Field;I)I"⟩
abbrev cX2_gather : ByteArray := prog_4_method_3_code
def yX2_gather : MethodName := ⟨RX2, "gather", "(LOpenFields$Field;)V"⟩
abbrev cX2_ownerOf : ByteArray := prog_4_method_4_code
def yX2_ownerOf : MethodName := ⟨RX2, "ownerOf", "(LOpenFields$House;)I"⟩
abbrev cX2_dealFrom : ByteArray := prog_4_method_5_code
def yX2_dealFrom : MethodName := ⟨RX2, "dealFrom", "(III)V"⟩
abbrev cX2_dealTo : ByteArray := prog_4_method_6_code
def yX2_dealTo : MethodName := ⟨RX2, "dealTo", "(III)V"⟩
abbrev cX2_piecesDue : ByteArray := prog_4_method_7_code
def yX2_piecesDue : MethodName := ⟨RX2, "piecesDue", "(I)I"⟩
def RX3 : String := "OpenFields$Field"
def TX3 : u_T := fun k => match k with
  | 0 => ("OpenFields$Field", "last", "LOpenFields$Strip;", false)
  | _ => ("OpenFields$Field", "size", "I", false)
def tyX3 : Nat → FieldType := fun k => match k with
  | 0 => .object "OpenFields$Strip"
  | _ => .int
theorem nmX3 : ∀ a, a < 2 → ∀ b, b < 2 → a ≠ b → (TX3 a).2.1 ≠ (TX3 b).2.1 := by decide +kernel
theorem tyX3_ok : ∀ k, k < 2 → parseFieldDescriptor (TX3 k).2.2.1 = some (tyX3 k) := by decide +kernel
abbrev cX3_init : ByteArray := prog_5_method_1_code
def yX3_init : MethodName := ⟨RX3, "<init>", "()V"⟩
abbrev cX3_append : ByteArray := prog_5_method_2_code
def yX3_append : MethodName := ⟨RX3, "append", "(LOpenFields$Strip;)V"⟩
def RX4 : String := "OpenFields$House"
def TX4 : u_T := fun k => match k with
  | 0 => ("OpenFields$House", "number", "I", true)
  | 1 => ("OpenFields$House", "need", "I", true)
  | 2 => ("OpenFields$House", "barn", "I", false)
  | 3 => ("OpenFields$House", "beasts", "I", false)
  | 4 => ("OpenFields$House", "hungry", "I", false)
  | 5 => ("OpenFields$House", "lack", "I", false)
  | 6 => ("OpenFields$House", "reaped", "I", false)
  | 7 => ("OpenFields$House", "strips", "I", false)
  | 8 => ("OpenFields$House", "held", "I", false)
  | _ => ("OpenFields$House", "right", "I", false)
def tyX4 : Nat → FieldType := fun k => match k with
  | 0 => .int
  | 1 => .int
  | 2 => .int
  | 3 => .int
  | 4 => .int
  | 5 => .int
  | 6 => .int
  | 7 => .int
  | 8 => .int
  | _ => .int
theorem nmX4 : ∀ a, a < 10 → ∀ b, b < 10 → a ≠ b → (TX4 a).2.1 ≠ (TX4 b).2.1 := by decide +kernel
theorem tyX4_ok : ∀ k, k < 10 → parseFieldDescriptor (TX4 k).2.2.1 = some (tyX4 k) := by decide +kernel
abbrev cX4_init : ByteArray := prog_6_method_1_code
def yX4_init : MethodName := ⟨RX4, "<init>", "(III)V"⟩
abbrev cX4_eat : ByteArray := prog_6_method_2_code
def yX4_eat : MethodName := ⟨RX4, "eat", "()V"⟩
abbrev cX4_gain : ByteArray := prog_6_method_3_code
def yX4_gain : MethodName := ⟨RX4, "gain", "(LOpenFields$Strip;)V"⟩
abbrev cX4_lose : ByteArray := prog_6_method_4_code
def yX4_lose : MethodName := ⟨RX4, "lose", "(LOpenFields$Strip;)V"⟩
abbrev cX4_isFair : ByteArray := prog_6_method_5_code
def yX4_isFair : MethodName := ⟨RX4, "isFair", "(II)Z"⟩
def RX5 : String := "OpenFields$Reader"
def TX5 : u_T := fun k => match k with
  | 0 => ("OpenFields$Reader", "waiting", "[I", true)
  | 1 => ("OpenFields$Reader", "waitingCount", "I", false)
  | 2 => ("OpenFields$Reader", "depth", "I", false)
  | 3 => ("OpenFields$Reader", "digits", "I", false)
  | 4 => ("OpenFields$Reader", "compared", "I", false)
  | 5 => ("OpenFields$Reader", "operandDue", "Z", false)
  | 6 => ("OpenFields$Reader", "notAllowed", "Z", false)
  | _ => ("OpenFields$Reader", "draft", "LOpenFields$Text;", false)
def tyX5 : Nat → FieldType := fun k => match k with
  | 0 => .array .int
  | 1 => .int
  | 2 => .int
  | 3 => .int
  | 4 => .int
  | 5 => .boolean
  | 6 => .boolean
  | _ => .object "OpenFields$Text"
theorem nmX5 : ∀ a, a < 8 → ∀ b, b < 8 → a ≠ b → (TX5 a).2.1 ≠ (TX5 b).2.1 := by decide +kernel
theorem tyX5_ok : ∀ k, k < 8 → parseFieldDescriptor (TX5 k).2.2.1 = some (tyX5 k) := by decide +kernel
abbrev cX5_init : ByteArray := prog_7_method_1_code
def yX5_init : MethodName := ⟨RX5, "<init>", "()V"⟩
abbrev cX5_read : ByteArray := prog_7_method_2_code
def yX5_read : MethodName := ⟨RX5, "read", "(LOpenFields$Tape;)I"⟩
abbrev cX5_begin : ByteArray := prog_7_method_3_code
def yX5_begin : MethodName := ⟨RX5, "begin", "()V"⟩
abbrev cX5_readOperand : ByteArray := prog_7_method_4_code
def yX5_readOperand : MethodName := ⟨RX5, "readOperand", "(I)Z"⟩
abbrev cX5_readBehindOperand : ByteArray := prog_7_method_5_code
def yX5_readBehindOperand : MethodName := ⟨RX5, "readBehindOperand", "(I)Z"⟩
abbrev cX5_readOperator : ByteArray := prog_7_method_6_code
def yX5_readOperator : MethodName := ⟨RX5, "readOperator", "(II)Z"⟩
abbrev cX5_noteComparison : ByteArray := prog_7_method_7_code
def yX5_noteComparison : MethodName := ⟨RX5, "noteComparison", "(I)Z"⟩
abbrev cX5_openParenthesis : ByteArray := prog_7_method_8_code
def yX5_openParenthesis : MethodName := ⟨RX5, "openParenthesis", "()Z"⟩
abbrev cX5_closeParenthesis : ByteArray := prog_7_method_9_code
def yX5_closeParenthesis : MethodName := ⟨RX5, "closeParenthesis", "()Z"⟩
abbrev cX5_letWait : ByteArray := prog_7_method_10_code
def yX5_letWait : MethodName := ⟨RX5, "letWait", "(I)V"⟩
abbrev cX5_writeWaiting : ByteArray := prog_7_method_11_code
def yX5_writeWaiting : MethodName := ⟨RX5, "writeWaiting", "(I)V"⟩
abbrev cX5_isDigit : ByteArray := prog_7_method_12_code
def yX5_isDigit : MethodName := ⟨RX5, "isDigit", "(I)Z"⟩
abbrev cX5_strength : ByteArray := prog_7_method_13_code
def yX5_strength : MethodName := ⟨RX5, "strength", "(I)I"⟩
def RX6 : String := "OpenFields$Reckoner"
def TX6 : u_T := fun k => match k with
  | 0 => ("OpenFields$Reckoner", "names", "[I", true)
  | _ => ("OpenFields$Reckoner", "values", "[I", true)
def tyX6 : Nat → FieldType := fun k => match k with
  | 0 => .array .int
  | _ => .array .int
theorem nmX6 : ∀ a, a < 2 → ∀ b, b < 2 → a ≠ b → (TX6 a).2.1 ≠ (TX6 b).2.1 := by decide +kernel
theorem tyX6_ok : ∀ k, k < 2 → parseFieldDescriptor (TX6 k).2.2.1 = some (tyX6 k) := by decide +kernel
abbrev cX6_init : ByteArray := prog_8_method_1_code
def yX6_init : MethodName := ⟨RX6, "<init>", "()V"⟩
abbrev cX6_reckon : ByteArray := prog_8_method_2_code
def yX6_reckon : MethodName := ⟨RX6, "reckon", "(LOpenFields$Text;)I"⟩
abbrev cX6_named : ByteArray := prog_8_method_3_code
def yX6_named : MethodName := ⟨RX6, "named", "(I)I"⟩
abbrev cX6_apply : ByteArray := prog_8_method_4_code
def yX6_apply : MethodName := ⟨RX6, "apply", "(III)I"⟩
def RX7 : String := "OpenFields$Strip"
def TX7 : u_T := fun k => match k with
  | 0 => ("OpenFields$Strip", "number", "I", true)
  | 1 => ("OpenFields$Strip", "soil", "I", true)
  | 2 => ("OpenFields$Strip", "field", "I", true)
  | 3 => ("OpenFields$Strip", "ahead", "LOpenFields$Strip;", true)
  | 4 => ("OpenFields$Strip", "behind", "LOpenFields$Strip;", false)
  | 5 => ("OpenFields$Strip", "house", "LOpenFields$House;", false)
  | 6 => ("OpenFields$Strip", "grass", "I", false)
  | 7 => ("OpenFields$Strip", "dung", "I", false)
  | 8 => ("OpenFields$Strip", "rest", "I", false)
  | 9 => ("OpenFields$Strip", "crop", "Z", false)
  | 10 => ("OpenFields$Strip", "sown", "Z", false)
  | 11 => ("OpenFields$Strip", "growth", "I", false)
  | 12 => ("OpenFields$Strip", "sownWeek", "I", false)
  | _ => ("OpenFields$Strip", "late", "I", false)
def tyX7 : Nat → FieldType := fun k => match k with
  | 0 => .int
  | 1 => .int
  | 2 => .int
  | 3 => .object "OpenFields$Strip"
  | 4 => .object "OpenFields$Strip"
  | 5 => .object "OpenFields$House"
  | 6 => .int
  | 7 => .int
  | 8 => .int
  | 9 => .boolean
  | 10 => .boolean
  | 11 => .int
  | 12 => .int
  | _ => .int
theorem nmX7 : ∀ a, a < 14 → ∀ b, b < 14 → a ≠ b → (TX7 a).2.1 ≠ (TX7 b).2.1 := by decide +kernel
theorem tyX7_ok : ∀ k, k < 14 → parseFieldDescriptor (TX7 k).2.2.1 = some (tyX7 k) := by decide +kernel
abbrev cX7_init : ByteArray := prog_9_method_1_code
def yX7_init : MethodName := ⟨RX7, "<init>", "(IILOpenFields$House;ILOpenFields$Strip;)V"⟩
abbrev cX7_worth : ByteArray := prog_9_method_2_code
def yX7_worth : MethodName := ⟨RX7, "worth", "()I"⟩
abbrev cX7_give : ByteArray := prog_9_method_3_code
def yX7_give : MethodName := ⟨RX7, "give", "(LOpenFields$House;)V"⟩
abbrev cX7_grow : ByteArray := prog_9_method_4_code
def yX7_grow : MethodName := ⟨RX7, "grow", "(I)V"⟩
abbrev cX7_graze : ByteArray := prog_9_method_5_code
def yX7_graze : MethodName := ⟨RX7, "graze", "()V"⟩
abbrev cX7_trample : ByteArray := prog_9_method_6_code
def yX7_trample : MethodName := ⟨RX7, "trample", "()V"⟩
abbrev cX7_plant : ByteArray := prog_9_method_7_code
def yX7_plant : MethodName := ⟨RX7, "plant", "(II)V"⟩
abbrev cX7_measures : ByteArray := prog_9_method_8_code
def yX7_measures : MethodName := ⟨RX7, "measures", "()I"⟩
abbrev cX7_cut : ByteArray := prog_9_method_9_code
def yX7_cut : MethodName := ⟨RX7, "cut", "()V"⟩
abbrev cX7_beginYear : ByteArray := prog_9_method_10_code
def yX7_beginYear : MethodName := ⟨RX7, "beginYear", "()V"⟩
abbrev cX7_beginsPiece : ByteArray := prog_9_method_11_code
def yX7_beginsPiece : MethodName := ⟨RX7, "beginsPiece", "()Z"⟩
abbrev cX7_seamsClosed : ByteArray := prog_9_method_12_code
def yX7_seamsClosed : MethodName := ⟨RX7, "seamsClosed", "(LOpenFields$House;LOpenFields$Strip;)I"⟩
def RX8 : String := "OpenFields$Tape"
def TX8 : u_T := fun k => match k with
  | 0 => ("OpenFields$Tape", "bytes", "[I", true)
  | _ => ("OpenFields$Tape", "size", "I", false)
def tyX8 : Nat → FieldType := fun k => match k with
  | 0 => .array .int
  | _ => .int
theorem nmX8 : ∀ a, a < 2 → ∀ b, b < 2 → a ≠ b → (TX8 a).2.1 ≠ (TX8 b).2.1 := by decide +kernel
theorem tyX8_ok : ∀ k, k < 2 → parseFieldDescriptor (TX8 k).2.2.1 = some (tyX8 k) := by decide +kernel
abbrev cX8_init : ByteArray := prog_10_method_1_code
def yX8_init : MethodName := ⟨RX8, "<init>", "()V"⟩
abbrev cX8_add : ByteArray := prog_10_method_2_code
def yX8_add : MethodName := ⟨RX8, "add", "(I)V"⟩
def RX9 : String := "OpenFields$Text"
def TX9 : u_T := fun k => match k with
  | 0 => ("OpenFields$Text", "bytes", "[I", true)
  | 1 => ("OpenFields$Text", "steps", "[I", true)
  | 2 => ("OpenFields$Text", "size", "I", false)
  | _ => ("OpenFields$Text", "stepCount", "I", false)
def tyX9 : Nat → FieldType := fun k => match k with
  | 0 => .array .int
  | 1 => .array .int
  | 2 => .int
  | _ => .int
theorem nmX9 : ∀ a, a < 4 → ∀ b, b < 4 → a ≠ b → (TX9 a).2.1 ≠ (TX9 b).2.1 := by decide +kernel
theorem tyX9_ok : ∀ k, k < 4 → parseFieldDescriptor (TX9 k).2.2.1 = some (tyX9 k) := by decide +kernel
abbrev cX9_init : ByteArray := prog_11_method_1_code
def yX9_init : MethodName := ⟨RX9, "<init>", "()V"⟩
abbrev cX9_addStep : ByteArray := prog_11_method_2_code
def yX9_addStep : MethodName := ⟨RX9, "addStep", "(I)V"⟩
abbrev cX9_addDigit : ByteArray := prog_11_method_3_code
def yX9_addDigit : MethodName := ⟨RX9, "addDigit", "(I)V"⟩
abbrev cX9_copyBytes : ByteArray := prog_11_method_4_code
def yX9_copyBytes : MethodName := ⟨RX9, "copyBytes", "(LOpenFields$Tape;)V"⟩
def RX10 : String := "OpenFields"
def TX10 : u_T := fun k => match k with
  | 0 => ("OpenFields", "houses", "[LOpenFields$House;", true)
  | 1 => ("OpenFields", "strips", "[LOpenFields$Strip;", true)
  | 2 => ("OpenFields", "fields", "[LOpenFields$Field;", true)
  | 3 => ("OpenFields", "rains", "[I", true)
  | 4 => ("OpenFields", "laws", "[LOpenFields$ByLaw;", true)
  | 5 => ("OpenFields", "tape", "LOpenFields$Tape;", true)
  | 6 => ("OpenFields", "reader", "LOpenFields$Reader;", true)
  | 7 => ("OpenFields", "reckoner", "LOpenFields$Reckoner;", true)
  | 8 => ("OpenFields", "trespasses", "LOpenFields$Book;", true)
  | 9 => ("OpenFields", "deal", "LOpenFields$Deal;", true)
  | 10 => ("OpenFields", "houseCount", "I", false)
  | 11 => ("OpenFields", "stripCount", "I", false)
  | 12 => ("OpenFields", "now", "I", false)
  | 13 => ("OpenFields", "lost", "I", false)
  | 14 => ("OpenFields", "mostApart", "I", false)
  | 15 => ("OpenFields", "herdGrass", "I", false)
  | _ => ("OpenFields", "herdAt", "I", false)
def tyX10 : Nat → FieldType := fun k => match k with
  | 0 => .array (.object "OpenFields$House")
  | 1 => .array (.object "OpenFields$Strip")
  | 2 => .array (.object "OpenFields$Field")
  | 3 => .array .int
  | 4 => .array (.object "OpenFields$ByLaw")
  | 5 => .object "OpenFields$Tape"
  | 6 => .object "OpenFields$Reader"
  | 7 => .object "OpenFields$Reckoner"
  | 8 => .object "OpenFields$Book"
  | 9 => .object "OpenFields$Deal"
  | 10 => .int
  | 11 => .int
  | 12 => .int
  | 13 => .int
  | 14 => .int
  | 15 => .int
  | _ => .int
theorem nmX10 : ∀ a, a < 17 → ∀ b, b < 17 → a ≠ b → (TX10 a).2.1 ≠ (TX10 b).2.1 := by decide +kernel
theorem tyX10_ok : ∀ k, k < 17 → parseFieldDescriptor (TX10 k).2.2.1 = some (tyX10 k) := by decide +kernel
abbrev cX10_init : ByteArray := prog_1_method_1_code
def yX10_init : MethodName := ⟨RX10, "<init>", "()V"⟩
abbrev cX10_startLaw : ByteArray := prog_1_method_2_code
def yX10_startLaw : MethodName := ⟨RX10, "startLaw", "(II)V"⟩
abbrev cX10_house : ByteArray := prog_1_method_3_code
def yX10_house : MethodName := ⟨RX10, "house", "(II)I"⟩
abbrev cX10_strip : ByteArray := prog_1_method_4_code
def yX10_strip : MethodName := ⟨RX10, "strip", "(III)I"⟩
abbrev cX10_rain : ByteArray := prog_1_method_5_code
def yX10_rain : MethodName := ⟨RX10, "rain", "(II)I"⟩
abbrev cX10_beasts : ByteArray := prog_1_method_6_code
def yX10_beasts : MethodName := ⟨RX10, "beasts", "(II)I"⟩
abbrev cX10_sow : ByteArray := prog_1_method_7_code
def yX10_sow : MethodName := ⟨RX10, "sow", "(I)I"⟩
abbrev cX10_reap : ByteArray := prog_1_method_8_code
def yX10_reap : MethodName := ⟨RX10, "reap", "(I)I"⟩
abbrev cX10_week : ByteArray := prog_1_method_9_code
def yX10_week : MethodName := ⟨RX10, "week", "(I)I"⟩
abbrev cX10_land : ByteArray := prog_1_method_10_code
def yX10_land : MethodName := ⟨RX10, "land", "(II)I"⟩
abbrev cX10_hold : ByteArray := prog_1_method_11_code
def yX10_hold : MethodName := ⟨RX10, "hold", "(II)I"⟩
abbrev cX10_hunger : ByteArray := prog_1_method_12_code
def yX10_hunger : MethodName := ⟨RX10, "hunger", "(I)I"⟩
abbrev cX10_feed : ByteArray := prog_1_method_13_code
def yX10_feed : MethodName := ⟨RX10, "feed", "(II)I"⟩
abbrev cX10_make : ByteArray := prog_1_method_14_code
def yX10_make : MethodName := ⟨RX10, "make", "(II)I"⟩
abbrev cX10_clear : ByteArray := prog_1_method_15_code
def yX10_clear : MethodName := ⟨RX10, "clear", "()I"⟩
abbrev cX10_law : ByteArray := prog_1_method_16_code
def yX10_law : MethodName := ⟨RX10, "law", "(III)I"⟩
abbrev cX10_text : ByteArray := prog_1_method_17_code
def yX10_text : MethodName := ⟨RX10, "text", "(II)I"⟩
abbrev cX10_stray : ByteArray := prog_1_method_18_code
def yX10_stray : MethodName := ⟨RX10, "stray", "(II)I"⟩
abbrev cX10_book : ByteArray := prog_1_method_19_code
def yX10_book : MethodName := ⟨RX10, "book", "(II)I"⟩
abbrev cX10_apart : ByteArray := prog_1_method_20_code
def yX10_apart : MethodName := ⟨RX10, "apart", "(I)I"⟩
abbrev cX10_court : ByteArray := prog_1_method_21_code
def yX10_court : MethodName := ⟨RX10, "court", "()I"⟩
abbrev cX10_swap : ByteArray := prog_1_method_22_code
def yX10_swap : MethodName := ⟨RX10, "swap", "(II)I"⟩
abbrev cX10_better : ByteArray := prog_1_method_23_code
def yX10_better : MethodName := ⟨RX10, "better", "()I"⟩
abbrev cX10_fewest : ByteArray := prog_1_method_24_code
def yX10_fewest : MethodName := ⟨RX10, "fewest", "(I)I"⟩
abbrev cX10_count : ByteArray := prog_1_method_25_code
def yX10_count : MethodName := ⟨RX10, "count", "(I)I"⟩
abbrev cX10_enact : ByteArray := prog_1_method_26_code
def yX10_enact : MethodName := ⟨RX10, "enact", "(II)I"⟩
abbrev cX10_within : ByteArray := prog_1_method_27_code
def yX10_within : MethodName := ⟨RX10, "within", "(III)Z"⟩
abbrev cX10_isHouse : ByteArray := prog_1_method_28_code
def yX10_isHouse : MethodName := ⟨RX10, "isHouse", "(I)Z"⟩
abbrev cX10_isStrip : ByteArray := prog_1_method_29_code
def yX10_isStrip : MethodName := ⟨RX10, "isStrip", "(I)Z"⟩
abbrev cX10_season : ByteArray := prog_1_method_30_code
def yX10_season : MethodName := ⟨RX10, "season", "(I)I"⟩
abbrev cX10_maySow : ByteArray := prog_1_method_31_code
def yX10_maySow : MethodName := ⟨RX10, "maySow", "(LOpenFields$Strip;)Z"⟩
abbrev cX10_lateness : ByteArray := prog_1_method_32_code
def yX10_lateness : MethodName := ⟨RX10, "lateness", "(I)I"⟩
abbrev cX10_growStrips : ByteArray := prog_1_method_33_code
def yX10_growStrips : MethodName := ⟨RX10, "growStrips", "()V"⟩
abbrev cX10_grazeHerd : ByteArray := prog_1_method_34_code
def yX10_grazeHerd : MethodName := ⟨RX10, "grazeHerd", "()V"⟩
abbrev cX10_nextPasture : ByteArray := prog_1_method_35_code
def yX10_nextPasture : MethodName := ⟨RX10, "nextPasture", "()LOpenFields$Strip;"⟩
abbrev cX10_eatFromBarns : ByteArray := prog_1_method_36_code
def yX10_eatFromBarns : MethodName := ⟨RX10, "eatFromBarns", "()V"⟩
abbrev cX10_beginWeek : ByteArray := prog_1_method_37_code
def yX10_beginWeek : MethodName := ⟨RX10, "beginWeek", "()V"⟩
abbrev cX10_beginYear : ByteArray := prog_1_method_38_code
def yX10_beginYear : MethodName := ⟨RX10, "beginYear", "()V"⟩
abbrev cX10_isOpen : ByteArray := prog_1_method_39_code
def yX10_isOpen : MethodName := ⟨RX10, "isOpen", "(LOpenFields$Strip;)Z"⟩
abbrev cX10_valueOf : ByteArray := prog_1_method_40_code
def yX10_valueOf : MethodName := ⟨RX10, "valueOf", "(ILOpenFields$House;LOpenFields$Strip;)I"⟩
abbrev cX10_settleRights : ByteArray := prog_1_method_41_code
def yX10_settleRights : MethodName := ⟨RX10, "settleRights", "()I"⟩
abbrev cX10_mayExchange : ByteArray := prog_1_method_42_code
def yX10_mayExchange : MethodName := ⟨RX10, "mayExchange", "(LOpenFields$Strip;LOpenFields$Strip;)Z"⟩
abbrev cX10_exchange : ByteArray := prog_1_method_43_code
def yX10_exchange : MethodName := ⟨RX10, "exchange", "(LOpenFields$Strip;LOpenFields$Strip;)V"⟩
abbrev cX10_makeFirstBetter : ByteArray := prog_1_method_44_code
def yX10_makeFirstBetter : MethodName := ⟨RX10, "makeFirstBetter", "()Z"⟩
abbrev cX10_isBetter : ByteArray := prog_1_method_45_code
def yX10_isBetter : MethodName := ⟨RX10, "isBetter", "(LOpenFields$Strip;LOpenFields$Strip;)Z"⟩
abbrev cX10_allPieces : ByteArray := prog_1_method_46_code
def yX10_allPieces : MethodName := ⟨RX10, "allPieces", "()I"⟩
abbrev cX10_piecesOf : ByteArray := prog_1_method_47_code
def yX10_piecesOf : MethodName := ⟨RX10, "piecesOf", "(LOpenFields$House;)I"⟩
abbrev cX10_allMeasures : ByteArray := prog_1_method_48_code
def yX10_allMeasures : MethodName := ⟨RX10, "allMeasures", "()I"⟩
def RX11 : String := "OpenFieldsModel"
def TX11 : u_T := fun k => match k with
  | 0 => ("OpenFieldsModel", "week", "I", false)
  | 1 => ("OpenFieldsModel", "rain", "[I", true)
  | 2 => ("OpenFieldsModel", "barn", "[I", true)
  | 3 => ("OpenFieldsModel", "need", "[I", true)
  | 4 => ("OpenFieldsModel", "beasts", "[I", true)
  | 5 => ("OpenFieldsModel", "hungry", "[I", true)
  | 6 => ("OpenFieldsModel", "lack", "[I", true)
  | 7 => ("OpenFieldsModel", "right", "[I", true)
  | 8 => ("OpenFieldsModel", "reaped", "[I", true)
  | 9 => ("OpenFieldsModel", "houses", "I", false)
  | 10 => ("OpenFieldsModel", "field", "[I", true)
  | 11 => ("OpenFieldsModel", "soil", "[I", true)
  | 12 => ("OpenFieldsModel", "house", "[I", true)
  | 13 => ("OpenFieldsModel", "grass", "[I", true)
  | 14 => ("OpenFieldsModel", "dung", "[I", true)
  | 15 => ("OpenFieldsModel", "rest", "[I", true)
  | 16 => ("OpenFieldsModel", "hasCrop", "[Z", true)
  | 17 => ("OpenFieldsModel", "growth", "[I", true)
  | 18 => ("OpenFieldsModel", "sownAt", "[I", true)
  | 19 => ("OpenFieldsModel", "late", "[I", true)
  | 20 => ("OpenFieldsModel", "sownIn", "[I", true)
  | 21 => ("OpenFieldsModel", "strips", "I", false)
  | 22 => ("OpenFieldsModel", "lost", "I", false)
  | 23 => ("OpenFieldsModel", "tape", "[I", true)
  | 24 => ("OpenFieldsModel", "tapeMany", "I", false)
  | 25 => ("OpenFieldsModel", "text", "[I", true)
  | 26 => ("OpenFieldsModel", "textMany", "[I", true)
  | 27 => ("OpenFieldsModel", "waitsTo", "[I", true)
  | 28 => ("OpenFieldsModel", "at", "I", false)
  | 29 => ("OpenFieldsModel", "base", "I", false)
  | 30 => ("OpenFieldsModel", "ends", "I", false)
  | 31 => ("OpenFieldsModel", "forHouse", "I", false)
  | 32 => ("OpenFieldsModel", "forStrip", "I", false)
  | 33 => ("OpenFieldsModel", "compared", "[Z", true)
  | 34 => ("OpenFieldsModel", "bookWeek", "[I", true)
  | 35 => ("OpenFieldsModel", "bookHouse", "[I", true)
  | 36 => ("OpenFieldsModel", "bookStrip", "[I", true)
  | 37 => ("OpenFieldsModel", "bookPaid", "[I", true)
  | 38 => ("OpenFieldsModel", "trespasses", "I", false)
  | 39 => ("OpenFieldsModel", "apart", "I", false)
  | 40 => ("OpenFieldsModel", "own", "[I", true)
  | 41 => ("OpenFieldsModel", "ownMany", "[I", true)
  | _ => ("OpenFieldsModel", "ownStrips", "I", false)
def tyX11 : Nat → FieldType := fun k => match k with
  | 0 => .int
  | 1 => .array .int
  | 2 => .array .int
  | 3 => .array .int
  | 4 => .array .int
  | 5 => .array .int
  | 6 => .array .int
  | 7 => .array .int
  | 8 => .array .int
  | 9 => .int
  | 10 => .array .int
  | 11 => .array .int
  | 12 => .array .int
  | 13 => .array .int
  | 14 => .array .int
  | 15 => .array .int
  | 16 => .array .boolean
  | 17 => .array .int
  | 18 => .array .int
  | 19 => .array .int
  | 20 => .array .int
  | 21 => .int
  | 22 => .int
  | 23 => .array .int
  | 24 => .int
  | 25 => .array .int
  | 26 => .array .int
  | 27 => .array .int
  | 28 => .int
  | 29 => .int
  | 30 => .int
  | 31 => .int
  | 32 => .int
  | 33 => .array .boolean
  | 34 => .array .int
  | 35 => .array .int
  | 36 => .array .int
  | 37 => .array .int
  | 38 => .int
  | 39 => .int
  | 40 => .array .int
  | 41 => .array .int
  | _ => .int
theorem nmX11 : ∀ a, a < 43 → ∀ b, b < 43 → a ≠ b → (TX11 a).2.1 ≠ (TX11 b).2.1 := by decide +kernel
theorem tyX11_ok : ∀ k, k < 43 → parseFieldDescriptor (TX11 k).2.2.1 = some (tyX11 k) := by decide +kernel
abbrev cX11_init : ByteArray := prog_13_method_1_code
def yX11_init : MethodName := ⟨RX11, "<init>", "()V"⟩
abbrev cX11_within : ByteArray := prog_13_method_2_code
def yX11_within : MethodName := ⟨RX11, "within", "(III)Z"⟩
abbrev cX11_isHouse : ByteArray := prog_13_method_3_code
def yX11_isHouse : MethodName := ⟨RX11, "isHouse", "(I)Z"⟩
abbrev cX11_isStrip : ByteArray := prog_13_method_4_code
def yX11_isStrip : MethodName := ⟨RX11, "isStrip", "(I)Z"⟩
abbrev cX11_isRelation : ByteArray := prog_13_method_5_code
def yX11_isRelation : MethodName := ⟨RX11, "isRelation", "(I)Z"⟩
abbrev cX11_isName : ByteArray := prog_13_method_6_code
def yX11_isName : MethodName := ⟨RX11, "isName", "(I)Z"⟩
abbrev cX11_faultOfTape : ByteArray := prog_13_method_7_code
def yX11_faultOfTape : MethodName := ⟨RX11, "faultOfTape", "()I"⟩
abbrev cX11_look : ByteArray := prog_13_method_8_code
def yX11_look : MethodName := ⟨RX11, "look", "()I"⟩
abbrev cX11_anyOf : ByteArray := prog_13_method_9_code
def yX11_anyOf : MethodName := ⟨RX11, "anyOf", "()I"⟩
abbrev cX11_allOf : ByteArray := prog_13_method_10_code
def yX11_allOf : MethodName := ⟨RX11, "allOf", "()I"⟩
abbrev cX11_notOf : ByteArray := prog_13_method_11_code
def yX11_notOf : MethodName := ⟨RX11, "notOf", "()I"⟩
abbrev cX11_compareOf : ByteArray := prog_13_method_12_code
def yX11_compareOf : MethodName := ⟨RX11, "compareOf", "()I"⟩
abbrev cX11_sumOf : ByteArray := prog_13_method_13_code
def yX11_sumOf : MethodName := ⟨RX11, "sumOf", "()I"⟩
abbrev cX11_productOf : ByteArray := prog_13_method_14_code
def yX11_productOf : MethodName := ⟨RX11, "productOf", "()I"⟩
abbrev cX11_oneOf : ByteArray := prog_13_method_15_code
def yX11_oneOf : MethodName := ⟨RX11, "oneOf", "()I"⟩
abbrev cX11_nameOf : ByteArray := prog_13_method_16_code
def yX11_nameOf : MethodName := ⟨RX11, "nameOf", "(I)I"⟩
abbrev cX11_comeIntoForce : ByteArray := prog_13_method_17_code
def yX11_comeIntoForce : MethodName := ⟨RX11, "comeIntoForce", "(I)V"⟩
abbrev cX11_lawOf : ByteArray := prog_13_method_18_code
def yX11_lawOf : MethodName := ⟨RX11, "lawOf", "(III)I"⟩
abbrev cX11_isOpen : ByteArray := prog_13_method_19_code
def yX11_isOpen : MethodName := ⟨RX11, "isOpen", "(I)Z"⟩
abbrev cX11_feed : ByteArray := prog_13_method_20_code
def yX11_feed : MethodName := ⟨RX11, "feed", "(II)I"⟩
abbrev cX11_make : ByteArray := prog_13_method_21_code
def yX11_make : MethodName := ⟨RX11, "make", "(II)I"⟩
abbrev cX11_clear : ByteArray := prog_13_method_22_code
def yX11_clear : MethodName := ⟨RX11, "clear", "()I"⟩
abbrev cX11_law : ByteArray := prog_13_method_23_code
def yX11_law : MethodName := ⟨RX11, "law", "(III)I"⟩
abbrev cX11_text : ByteArray := prog_13_method_24_code
def yX11_text : MethodName := ⟨RX11, "text", "(II)I"⟩
abbrev cX11_house : ByteArray := prog_13_method_25_code
def yX11_house : MethodName := ⟨RX11, "house", "(II)I"⟩
abbrev cX11_strip : ByteArray := prog_13_method_26_code
def yX11_strip : MethodName := ⟨RX11, "strip", "(III)I"⟩
abbrev cX11_rain : ByteArray := prog_13_method_27_code
def yX11_rain : MethodName := ⟨RX11, "rain", "(II)I"⟩
abbrev cX11_beasts : ByteArray := prog_13_method_28_code
def yX11_beasts : MethodName := ⟨RX11, "beasts", "(II)I"⟩
abbrev cX11_use : ByteArray := prog_13_method_29_code
def yX11_use : MethodName := ⟨RX11, "use", "(I)I"⟩
abbrev cX11_sow : ByteArray := prog_13_method_30_code
def yX11_sow : MethodName := ⟨RX11, "sow", "(I)I"⟩
abbrev cX11_bears : ByteArray := prog_13_method_31_code
def yX11_bears : MethodName := ⟨RX11, "bears", "(I)I"⟩
abbrev cX11_reap : ByteArray := prog_13_method_32_code
def yX11_reap : MethodName := ⟨RX11, "reap", "(I)I"⟩
abbrev cX11_grow : ByteArray := prog_13_method_33_code
def yX11_grow : MethodName := ⟨RX11, "grow", "()V"⟩
abbrev cX11_pasture : ByteArray := prog_13_method_34_code
def yX11_pasture : MethodName := ⟨RX11, "pasture", "()I"⟩
abbrev cX11_herd : ByteArray := prog_13_method_35_code
def yX11_herd : MethodName := ⟨RX11, "herd", "()V"⟩
abbrev cX11_eat : ByteArray := prog_13_method_36_code
def yX11_eat : MethodName := ⟨RX11, "eat", "()V"⟩
abbrev cX11_beginYear : ByteArray := prog_13_method_37_code
def yX11_beginYear : MethodName := ⟨RX11, "beginYear", "()V"⟩
abbrev cX11_week : ByteArray := prog_13_method_38_code
def yX11_week : MethodName := ⟨RX11, "week", "(I)I"⟩
abbrev cX11_land : ByteArray := prog_13_method_39_code
def yX11_land : MethodName := ⟨RX11, "land", "(II)I"⟩
abbrev cX11_stripsOf : ByteArray := prog_13_method_40_code
def yX11_stripsOf : MethodName := ⟨RX11, "stripsOf", "(I)I"⟩
abbrev cX11_held : ByteArray := prog_13_method_41_code
def yX11_held : MethodName := ⟨RX11, "held", "(I)I"⟩
abbrev cX11_pieces : ByteArray := prog_13_method_42_code
def yX11_pieces : MethodName := ⟨RX11, "pieces", "(II)I"⟩
abbrev cX11_hold : ByteArray := prog_13_method_43_code
def yX11_hold : MethodName := ⟨RX11, "hold", "(II)I"⟩
abbrev cX11_hunger : ByteArray := prog_13_method_44_code
def yX11_hunger : MethodName := ⟨RX11, "hunger", "(I)I"⟩
abbrev cX11_stray : ByteArray := prog_13_method_45_code
def yX11_stray : MethodName := ⟨RX11, "stray", "(II)I"⟩
abbrev cX11_book : ByteArray := prog_13_method_46_code
def yX11_book : MethodName := ⟨RX11, "book", "(II)I"⟩
abbrev cX11_apart : ByteArray := prog_13_method_47_code
def yX11_apart : MethodName := ⟨RX11, "apart", "(I)I"⟩
abbrev cX11_court : ByteArray := prog_13_method_48_code
def yX11_court : MethodName := ⟨RX11, "court", "()I"⟩
abbrev cX11_isNear : ByteArray := prog_13_method_49_code
def yX11_isNear : MethodName := ⟨RX11, "isNear", "(I)Z"⟩
abbrev cX11_changeOver : ByteArray := prog_13_method_50_code
def yX11_changeOver : MethodName := ⟨RX11, "changeOver", "(II)V"⟩
abbrev cX11_exchange : ByteArray := prog_13_method_51_code
def yX11_exchange : MethodName := ⟨RX11, "exchange", "(II)Z"⟩
abbrev cX11_swap : ByteArray := prog_13_method_52_code
def yX11_swap : MethodName := ⟨RX11, "swap", "(II)I"⟩
abbrev cX11_betters : ByteArray := prog_13_method_53_code
def yX11_betters : MethodName := ⟨RX11, "betters", "()Z"⟩
abbrev cX11_better : ByteArray := prog_13_method_54_code
def yX11_better : MethodName := ⟨RX11, "better", "()I"⟩
abbrev cX11_fewestFrom : ByteArray := prog_13_method_55_code
def yX11_fewestFrom : MethodName := ⟨RX11, "fewestFrom", "(II)I"⟩
abbrev cX11_fewest : ByteArray := prog_13_method_56_code
def yX11_fewest : MethodName := ⟨RX11, "fewest", "(I)I"⟩
abbrev cX11_count : ByteArray := prog_13_method_57_code
def yX11_count : MethodName := ⟨RX11, "count", "(I)I"⟩
def RJ0 : String := "java/lang/String"
abbrev cJ0_length_8abf5 : ByteArray := prog_16_method_54_code
def yJ0_length_8abf5 : MethodName := ⟨RJ0, "length", "()I"⟩
abbrev cJ0_indexOf_0f7a4 : ByteArray := prog_16_method_79_code
def yJ0_indexOf_0f7a4 : MethodName := ⟨RJ0, "indexOf", "(I)I"⟩
abbrev cJ0_indexOf_7cf53 : ByteArray := prog_16_method_80_code
def yJ0_indexOf_7cf53 : MethodName := ⟨RJ0, "indexOf", "(II)I"⟩
abbrev cJ0_coder_7d493 : ByteArray := prog_16_method_152_code
def yJ0_coder_7d493 : MethodName := ⟨RJ0, "coder", "()B"⟩
abbrev cJ0_isLatin1_aae02 : ByteArray := prog_16_method_154_code
def yJ0_isLatin1_aae02 : MethodName := ⟨RJ0, "isLatin1", "()Z"⟩
def RJ1 : String := "java/lang/StringLatin1"
abbrev cJ1_canEncode_9a6ad : ByteArray := prog_17_method_4_code
def yJ1_canEncode_9a6ad : MethodName := ⟨RJ1, "canEncode", "(I)Z"⟩
abbrev cJ1_indexOf_4cfef : ByteArray := prog_17_method_22_code
def yJ1_indexOf_4cfef : MethodName := ⟨RJ1, "indexOf", "([BIII)I"⟩
abbrev cJ1_indexOfChar_4cfef : ByteArray := prog_17_method_23_code
def yJ1_indexOfChar_4cfef : MethodName := ⟨RJ1, "indexOfChar", "([BIII)I"⟩
abbrev mcl : List vw_C := [(RX0, TX0, 2), (RX1, TX1, 4), (RX2, TX2, 8), (RX3, TX3, 2), (RX4, TX4, 10), (RX5, TX5, 8), (RX6, TX6, 2), (RX7, TX7, 14), (RX8, TX8, 2), (RX9, TX9, 4), (RX10, TX10, 17), (RX11, TX11, 43)]
