section
-- ===== PART A: goes FIRST, ahead of the names: the tables' words, and 'selects' of the private methods out of them =====
/-- a private method of a class that the tables say can be made, by its rows of tables_1 -/
def lw_okq (q : MethodName × Nat) : Prop := (q.1.cls ≠ "java/lang/invoke/MethodHandle" ∧ q.1.cls ≠ "java/lang/invoke/VarHandle") ∧ Cond.instantiable q.1.cls q.2 ∈ tables_1 ∧ Cond.privateMethod q.1 ∈ tables_1 ∧ Cond.instanceMethod q.1 ∈ tables_1
theorem lw_p0 : lw_okq (⟨"VoiceRows$Score", "sortOrder", "()V"⟩, 7) := ⟨⟨by decide +kernel, by decide +kernel⟩, List.mem_of_getElem? (i := 22) (by decide +kernel), List.mem_of_getElem? (i := 252) (by decide +kernel), List.mem_of_getElem? (i := 253) (by decide +kernel)⟩
theorem lw_p1 : lw_okq (⟨"VoiceRows$Score", "isBefore", "(II)Z"⟩, 7) := ⟨⟨by decide +kernel, by decide +kernel⟩, List.mem_of_getElem? (i := 22) (by decide +kernel), List.mem_of_getElem? (i := 256) (by decide +kernel), List.mem_of_getElem? (i := 257) (by decide +kernel)⟩
theorem lw_p2 : lw_okq (⟨"VoiceRows$Finder", "makeStates", "()V"⟩, 5) := ⟨⟨by decide +kernel, by decide +kernel⟩, List.mem_of_getElem? (i := 166) (by decide +kernel), List.mem_of_getElem? (i := 290) (by decide +kernel), List.mem_of_getElem? (i := 291) (by decide +kernel)⟩
theorem lw_p3 : lw_okq (⟨"VoiceRows$Finder", "onward", "(II)I"⟩, 5) := ⟨⟨by decide +kernel, by decide +kernel⟩, List.mem_of_getElem? (i := 166) (by decide +kernel), List.mem_of_getElem? (i := 314) (by decide +kernel), List.mem_of_getElem? (i := 315) (by decide +kernel)⟩
theorem lw_p4 : lw_okq (⟨"VoiceRows$Finder", "through", "(III)I"⟩, 5) := ⟨⟨by decide +kernel, by decide +kernel⟩, List.mem_of_getElem? (i := 166) (by decide +kernel), List.mem_of_getElem? (i := 318) (by decide +kernel), List.mem_of_getElem? (i := 319) (by decide +kernel)⟩
theorem lw_p5 : lw_okq (⟨"VoiceRows$Lines", "crossed", "(II)I"⟩, 3) := ⟨⟨by decide +kernel, by decide +kernel⟩, List.mem_of_getElem? (i := 148) (by decide +kernel), List.mem_of_getElem? (i := 326) (by decide +kernel), List.mem_of_getElem? (i := 327) (by decide +kernel)⟩
theorem lw_p6 : lw_okq (⟨"VoiceRows$Finder", "stateBehind", "(III)I"⟩, 5) := ⟨⟨by decide +kernel, by decide +kernel⟩, List.mem_of_getElem? (i := 166) (by decide +kernel), List.mem_of_getElem? (i := 333) (by decide +kernel), List.mem_of_getElem? (i := 334) (by decide +kernel)⟩
theorem lw_p7 : lw_okq (⟨"VoiceRows$Finder", "firstBest", "(II)I"⟩, 5) := ⟨⟨by decide +kernel, by decide +kernel⟩, List.mem_of_getElem? (i := 166) (by decide +kernel), List.mem_of_getElem? (i := 341) (by decide +kernel), List.mem_of_getElem? (i := 342) (by decide +kernel)⟩
theorem lw_p8 : lw_okq (⟨"VoiceRows$Goer", "cheapest", "(II)I"⟩, 3) := ⟨⟨by decide +kernel, by decide +kernel⟩, List.mem_of_getElem? (i := 188) (by decide +kernel), List.mem_of_getElem? (i := 355) (by decide +kernel), List.mem_of_getElem? (i := 356) (by decide +kernel)⟩
theorem lw_p9 : lw_okq (⟨"VoiceRows$Bill", "leaps", "()I"⟩, 3) := ⟨⟨by decide +kernel, by decide +kernel⟩, List.mem_of_getElem? (i := 132) (by decide +kernel), List.mem_of_getElem? (i := 381) (by decide +kernel), List.mem_of_getElem? (i := 382) (by decide +kernel)⟩
theorem lw_p10 : lw_okq (⟨"VoiceRows$Bill", "gaps", "()I"⟩, 3) := ⟨⟨by decide +kernel, by decide +kernel⟩, List.mem_of_getElem? (i := 132) (by decide +kernel), List.mem_of_getElem? (i := 387) (by decide +kernel), List.mem_of_getElem? (i := 388) (by decide +kernel)⟩
theorem lw_p11 : lw_okq (⟨"VoiceRows$Bill", "crossings", "()I"⟩, 3) := ⟨⟨by decide +kernel, by decide +kernel⟩, List.mem_of_getElem? (i := 132) (by decide +kernel), List.mem_of_getElem? (i := 391) (by decide +kernel), List.mem_of_getElem? (i := 392) (by decide +kernel)⟩
theorem lw_p12 : lw_okq (⟨"VoiceRows$PairRows", "isPair", "(III)Z"⟩, 3) := ⟨⟨by decide +kernel, by decide +kernel⟩, List.mem_of_getElem? (i := 114) (by decide +kernel), List.mem_of_getElem? (i := 399) (by decide +kernel), List.mem_of_getElem? (i := 400) (by decide +kernel)⟩
theorem lw_p13 : lw_okq (⟨"VoiceRows$PairRows", "isUnder", "(II)Z"⟩, 3) := ⟨⟨by decide +kernel, by decide +kernel⟩, List.mem_of_getElem? (i := 114) (by decide +kernel), List.mem_of_getElem? (i := 404) (by decide +kernel), List.mem_of_getElem? (i := 405) (by decide +kernel)⟩
theorem lw_p14 : lw_okq (⟨"VoiceRows$PairRows", "doMeet", "(II)Z"⟩, 3) := ⟨⟨by decide +kernel, by decide +kernel⟩, List.mem_of_getElem? (i := 114) (by decide +kernel), List.mem_of_getElem? (i := 408) (by decide +kernel), List.mem_of_getElem? (i := 409) (by decide +kernel)⟩
theorem lw_p15 : lw_okq (⟨"VoiceRows$PairRows", "sameSpan", "(II)Z"⟩, 3) := ⟨⟨by decide +kernel, by decide +kernel⟩, List.mem_of_getElem? (i := 114) (by decide +kernel), List.mem_of_getElem? (i := 412) (by decide +kernel), List.mem_of_getElem? (i := 413) (by decide +kernel)⟩
def lw_privs_1 : List (MethodName × Nat) := [(⟨"VoiceRows$Score", "sortOrder", "()V"⟩, 7), (⟨"VoiceRows$Score", "isBefore", "(II)Z"⟩, 7), (⟨"VoiceRows$Finder", "makeStates", "()V"⟩, 5), (⟨"VoiceRows$Finder", "onward", "(II)I"⟩, 5), (⟨"VoiceRows$Finder", "through", "(III)I"⟩, 5), (⟨"VoiceRows$Lines", "crossed", "(II)I"⟩, 3), (⟨"VoiceRows$Finder", "stateBehind", "(III)I"⟩, 5), (⟨"VoiceRows$Finder", "firstBest", "(II)I"⟩, 5), (⟨"VoiceRows$Goer", "cheapest", "(II)I"⟩, 3), (⟨"VoiceRows$Bill", "leaps", "()I"⟩, 3), (⟨"VoiceRows$Bill", "gaps", "()I"⟩, 3), (⟨"VoiceRows$Bill", "crossings", "()I"⟩, 3), (⟨"VoiceRows$PairRows", "isPair", "(III)Z"⟩, 3), (⟨"VoiceRows$PairRows", "isUnder", "(II)Z"⟩, 3), (⟨"VoiceRows$PairRows", "doMeet", "(II)Z"⟩, 3), (⟨"VoiceRows$PairRows", "sameSpan", "(II)Z"⟩, 3)]
theorem lw_r1 : ∀ q ∈ lw_privs_1, lw_okq q := List.forall_mem_cons.mpr ⟨lw_p0, List.forall_mem_cons.mpr ⟨lw_p1, List.forall_mem_cons.mpr ⟨lw_p2, List.forall_mem_cons.mpr ⟨lw_p3, List.forall_mem_cons.mpr ⟨lw_p4, List.forall_mem_cons.mpr ⟨lw_p5, List.forall_mem_cons.mpr ⟨lw_p6, List.forall_mem_cons.mpr ⟨lw_p7, List.forall_mem_cons.mpr ⟨lw_p8, List.forall_mem_cons.mpr ⟨lw_p9, List.forall_mem_cons.mpr ⟨lw_p10, List.forall_mem_cons.mpr ⟨lw_p11, List.forall_mem_cons.mpr ⟨lw_p12, List.forall_mem_cons.mpr ⟨lw_p13, List.forall_mem_cons.mpr ⟨lw_p14, List.forall_mem_cons.mpr ⟨lw_p15, fun _ h => absurd h List.not_mem_nil⟩⟩⟩⟩⟩⟩⟩⟩⟩⟩⟩⟩⟩⟩⟩⟩
theorem lw_p16 : lw_okq (⟨"VoiceRows$Bill", "used", "()I"⟩, 3) := ⟨⟨by decide +kernel, by decide +kernel⟩, List.mem_of_getElem? (i := 132) (by decide +kernel), List.mem_of_getElem? (i := 416) (by decide +kernel), List.mem_of_getElem? (i := 417) (by decide +kernel)⟩
theorem lw_p17 : lw_okq (⟨"VoiceRows$RestRows", "breaksRest", "(II)Z"⟩, 4) := ⟨⟨by decide +kernel, by decide +kernel⟩, List.mem_of_getElem? (i := 92) (by decide +kernel), List.mem_of_getElem? (i := 467) (by decide +kernel), List.mem_of_getElem? (i := 468) (by decide +kernel)⟩
theorem lw_p18 : lw_okq (⟨"VoiceRows$RestRows", "keep", "(II)V"⟩, 4) := ⟨⟨by decide +kernel, by decide +kernel⟩, List.mem_of_getElem? (i := 92) (by decide +kernel), List.mem_of_getElem? (i := 471) (by decide +kernel), List.mem_of_getElem? (i := 472) (by decide +kernel)⟩
theorem lw_p19 : lw_okq (⟨"VoiceRowsModel", "sort", "()V"⟩, 10) := ⟨⟨by decide +kernel, by decide +kernel⟩, List.mem_of_getElem? (i := 512) (by decide +kernel), List.mem_of_getElem? (i := 562) (by decide +kernel), List.mem_of_getElem? (i := 563) (by decide +kernel)⟩
theorem lw_p20 : lw_okq (⟨"VoiceRowsModel", "rank", "(I)I"⟩, 10) := ⟨⟨by decide +kernel, by decide +kernel⟩, List.mem_of_getElem? (i := 512) (by decide +kernel), List.mem_of_getElem? (i := 566) (by decide +kernel), List.mem_of_getElem? (i := 567) (by decide +kernel)⟩
theorem lw_p21 : lw_okq (⟨"VoiceRowsModel", "ahead", "(II)Z"⟩, 10) := ⟨⟨by decide +kernel, by decide +kernel⟩, List.mem_of_getElem? (i := 512) (by decide +kernel), List.mem_of_getElem? (i := 570) (by decide +kernel), List.mem_of_getElem? (i := 571) (by decide +kernel)⟩
theorem lw_p22 : lw_okq (⟨"VoiceRowsModel", "search", "(I)I"⟩, 10) := ⟨⟨by decide +kernel, by decide +kernel⟩, List.mem_of_getElem? (i := 512) (by decide +kernel), List.mem_of_getElem? (i := 590) (by decide +kernel), List.mem_of_getElem? (i := 591) (by decide +kernel)⟩
theorem lw_p23 : lw_okq (⟨"VoiceRowsModel", "level", "(II)V"⟩, 10) := ⟨⟨by decide +kernel, by decide +kernel⟩, List.mem_of_getElem? (i := 512) (by decide +kernel), List.mem_of_getElem? (i := 594) (by decide +kernel), List.mem_of_getElem? (i := 595) (by decide +kernel)⟩
theorem lw_p24 : lw_okq (⟨"VoiceRowsModel", "place", "(I)I"⟩, 10) := ⟨⟨by decide +kernel, by decide +kernel⟩, List.mem_of_getElem? (i := 512) (by decide +kernel), List.mem_of_getElem? (i := 598) (by decide +kernel), List.mem_of_getElem? (i := 599) (by decide +kernel)⟩
theorem lw_p25 : lw_okq (⟨"VoiceRowsModel", "leastOf", "(II)I"⟩, 10) := ⟨⟨by decide +kernel, by decide +kernel⟩, List.mem_of_getElem? (i := 512) (by decide +kernel), List.mem_of_getElem? (i := 603) (by decide +kernel), List.mem_of_getElem? (i := 604) (by decide +kernel)⟩
theorem lw_p26 : lw_okq (⟨"VoiceRowsModel", "through", "(II)I"⟩, 10) := ⟨⟨by decide +kernel, by decide +kernel⟩, List.mem_of_getElem? (i := 512) (by decide +kernel), List.mem_of_getElem? (i := 608) (by decide +kernel), List.mem_of_getElem? (i := 609) (by decide +kernel)⟩
theorem lw_p27 : lw_okq (⟨"VoiceRowsModel", "price", "(II)I"⟩, 10) := ⟨⟨by decide +kernel, by decide +kernel⟩, List.mem_of_getElem? (i := 512) (by decide +kernel), List.mem_of_getElem? (i := 612) (by decide +kernel), List.mem_of_getElem? (i := 613) (by decide +kernel)⟩
theorem lw_p28 : lw_okq (⟨"VoiceRowsModel", "together", "(II)Z"⟩, 10) := ⟨⟨by decide +kernel, by decide +kernel⟩, List.mem_of_getElem? (i := 512) (by decide +kernel), List.mem_of_getElem? (i := 616) (by decide +kernel), List.mem_of_getElem? (i := 617) (by decide +kernel)⟩
theorem lw_p29 : lw_okq (⟨"VoiceRowsModel", "give", "()V"⟩, 10) := ⟨⟨by decide +kernel, by decide +kernel⟩, List.mem_of_getElem? (i := 512) (by decide +kernel), List.mem_of_getElem? (i := 625) (by decide +kernel), List.mem_of_getElem? (i := 626) (by decide +kernel)⟩
theorem lw_p30 : lw_okq (⟨"VoiceRowsModel", "isWhole", "()Z"⟩, 10) := ⟨⟨by decide +kernel, by decide +kernel⟩, List.mem_of_getElem? (i := 512) (by decide +kernel), List.mem_of_getElem? (i := 637) (by decide +kernel), List.mem_of_getElem? (i := 638) (by decide +kernel)⟩
theorem lw_p31 : lw_okq (⟨"VoiceRowsModel", "clashes", "(I)I"⟩, 10) := ⟨⟨by decide +kernel, by decide +kernel⟩, List.mem_of_getElem? (i := 512) (by decide +kernel), List.mem_of_getElem? (i := 641) (by decide +kernel), List.mem_of_getElem? (i := 642) (by decide +kernel)⟩
def lw_privs_2 : List (MethodName × Nat) := [(⟨"VoiceRows$Bill", "used", "()I"⟩, 3), (⟨"VoiceRows$RestRows", "breaksRest", "(II)Z"⟩, 4), (⟨"VoiceRows$RestRows", "keep", "(II)V"⟩, 4), (⟨"VoiceRowsModel", "sort", "()V"⟩, 10), (⟨"VoiceRowsModel", "rank", "(I)I"⟩, 10), (⟨"VoiceRowsModel", "ahead", "(II)Z"⟩, 10), (⟨"VoiceRowsModel", "search", "(I)I"⟩, 10), (⟨"VoiceRowsModel", "level", "(II)V"⟩, 10), (⟨"VoiceRowsModel", "place", "(I)I"⟩, 10), (⟨"VoiceRowsModel", "leastOf", "(II)I"⟩, 10), (⟨"VoiceRowsModel", "through", "(II)I"⟩, 10), (⟨"VoiceRowsModel", "price", "(II)I"⟩, 10), (⟨"VoiceRowsModel", "together", "(II)Z"⟩, 10), (⟨"VoiceRowsModel", "give", "()V"⟩, 10), (⟨"VoiceRowsModel", "isWhole", "()Z"⟩, 10), (⟨"VoiceRowsModel", "clashes", "(I)I"⟩, 10)]
theorem lw_r2 : ∀ q ∈ lw_privs_2, lw_okq q := List.forall_mem_cons.mpr ⟨lw_p16, List.forall_mem_cons.mpr ⟨lw_p17, List.forall_mem_cons.mpr ⟨lw_p18, List.forall_mem_cons.mpr ⟨lw_p19, List.forall_mem_cons.mpr ⟨lw_p20, List.forall_mem_cons.mpr ⟨lw_p21, List.forall_mem_cons.mpr ⟨lw_p22, List.forall_mem_cons.mpr ⟨lw_p23, List.forall_mem_cons.mpr ⟨lw_p24, List.forall_mem_cons.mpr ⟨lw_p25, List.forall_mem_cons.mpr ⟨lw_p26, List.forall_mem_cons.mpr ⟨lw_p27, List.forall_mem_cons.mpr ⟨lw_p28, List.forall_mem_cons.mpr ⟨lw_p29, List.forall_mem_cons.mpr ⟨lw_p30, List.forall_mem_cons.mpr ⟨lw_p31, fun _ h => absurd h List.not_mem_nil⟩⟩⟩⟩⟩⟩⟩⟩⟩⟩⟩⟩⟩⟩⟩⟩
theorem lw_p32 : lw_okq (⟨"VoiceRowsModel", "nextOf", "(I)I"⟩, 10) := ⟨⟨by decide +kernel, by decide +kernel⟩, List.mem_of_getElem? (i := 512) (by decide +kernel), List.mem_of_getElem? (i := 645) (by decide +kernel), List.mem_of_getElem? (i := 646) (by decide +kernel)⟩
theorem lw_p33 : lw_okq (⟨"VoiceRowsModel", "pairOf", "(III)I"⟩, 10) := ⟨⟨by decide +kernel, by decide +kernel⟩, List.mem_of_getElem? (i := 512) (by decide +kernel), List.mem_of_getElem? (i := 653) (by decide +kernel), List.mem_of_getElem? (i := 654) (by decide +kernel)⟩
theorem lw_p34 : lw_okq (⟨"VoiceRowsModel", "isPair", "(III)Z"⟩, 10) := ⟨⟨by decide +kernel, by decide +kernel⟩, List.mem_of_getElem? (i := 512) (by decide +kernel), List.mem_of_getElem? (i := 657) (by decide +kernel), List.mem_of_getElem? (i := 658) (by decide +kernel)⟩
theorem lw_p35 : lw_okq (⟨"VoiceRowsModel", "used", "()I"⟩, 10) := ⟨⟨by decide +kernel, by decide +kernel⟩, List.mem_of_getElem? (i := 512) (by decide +kernel), List.mem_of_getElem? (i := 661) (by decide +kernel), List.mem_of_getElem? (i := 662) (by decide +kernel)⟩
theorem lw_p36 : lw_okq (⟨"VoiceRowsModel", "size", "(I)I"⟩, 10) := ⟨⟨by decide +kernel, by decide +kernel⟩, List.mem_of_getElem? (i := 512) (by decide +kernel), List.mem_of_getElem? (i := 665) (by decide +kernel), List.mem_of_getElem? (i := 666) (by decide +kernel)⟩
theorem lw_p37 : lw_okq (⟨"VoiceRowsModel", "at", "(I)I"⟩, 10) := ⟨⟨by decide +kernel, by decide +kernel⟩, List.mem_of_getElem? (i := 512) (by decide +kernel), List.mem_of_getElem? (i := 681) (by decide +kernel), List.mem_of_getElem? (i := 682) (by decide +kernel)⟩
theorem lw_p38 : lw_okq (⟨"VoiceRowsModel", "restOf", "(IIZ)I"⟩, 10) := ⟨⟨by decide +kernel, by decide +kernel⟩, List.mem_of_getElem? (i := 512) (by decide +kernel), List.mem_of_getElem? (i := 693) (by decide +kernel), List.mem_of_getElem? (i := 694) (by decide +kernel)⟩
theorem lw_p39 : lw_okq (⟨"VoiceRowsModel", "theEnd", "()I"⟩, 10) := ⟨⟨by decide +kernel, by decide +kernel⟩, List.mem_of_getElem? (i := 512) (by decide +kernel), List.mem_of_getElem? (i := 697) (by decide +kernel), List.mem_of_getElem? (i := 698) (by decide +kernel)⟩
theorem lw_p40 : lw_okq (⟨"VoiceRowsModel", "silence", "(II)I"⟩, 10) := ⟨⟨by decide +kernel, by decide +kernel⟩, List.mem_of_getElem? (i := 512) (by decide +kernel), List.mem_of_getElem? (i := 701) (by decide +kernel), List.mem_of_getElem? (i := 702) (by decide +kernel)⟩
theorem lw_p41 : lw_okq (⟨"VoiceRowsModel", "isOf", "(II)Z"⟩, 10) := ⟨⟨by decide +kernel, by decide +kernel⟩, List.mem_of_getElem? (i := 512) (by decide +kernel), List.mem_of_getElem? (i := 705) (by decide +kernel), List.mem_of_getElem? (i := 706) (by decide +kernel)⟩
theorem lw_p42 : lw_okq (⟨"VoiceRowsModel", "sound", "(II)I"⟩, 10) := ⟨⟨by decide +kernel, by decide +kernel⟩, List.mem_of_getElem? (i := 512) (by decide +kernel), List.mem_of_getElem? (i := 709) (by decide +kernel), List.mem_of_getElem? (i := 710) (by decide +kernel)⟩
def lw_privs_3 : List (MethodName × Nat) := [(⟨"VoiceRowsModel", "nextOf", "(I)I"⟩, 10), (⟨"VoiceRowsModel", "pairOf", "(III)I"⟩, 10), (⟨"VoiceRowsModel", "isPair", "(III)Z"⟩, 10), (⟨"VoiceRowsModel", "used", "()I"⟩, 10), (⟨"VoiceRowsModel", "size", "(I)I"⟩, 10), (⟨"VoiceRowsModel", "at", "(I)I"⟩, 10), (⟨"VoiceRowsModel", "restOf", "(IIZ)I"⟩, 10), (⟨"VoiceRowsModel", "theEnd", "()I"⟩, 10), (⟨"VoiceRowsModel", "silence", "(II)I"⟩, 10), (⟨"VoiceRowsModel", "isOf", "(II)Z"⟩, 10), (⟨"VoiceRowsModel", "sound", "(II)I"⟩, 10)]
theorem lw_r3 : ∀ q ∈ lw_privs_3, lw_okq q := List.forall_mem_cons.mpr ⟨lw_p32, List.forall_mem_cons.mpr ⟨lw_p33, List.forall_mem_cons.mpr ⟨lw_p34, List.forall_mem_cons.mpr ⟨lw_p35, List.forall_mem_cons.mpr ⟨lw_p36, List.forall_mem_cons.mpr ⟨lw_p37, List.forall_mem_cons.mpr ⟨lw_p38, List.forall_mem_cons.mpr ⟨lw_p39, List.forall_mem_cons.mpr ⟨lw_p40, List.forall_mem_cons.mpr ⟨lw_p41, List.forall_mem_cons.mpr ⟨lw_p42, fun _ h => absurd h List.not_mem_nil⟩⟩⟩⟩⟩⟩⟩⟩⟩⟩⟩
def lw_privs : List (MethodName × Nat) := lw_privs_1 ++ (lw_privs_2 ++ (lw_privs_3))
def lw_tbl : List Cond := k2_sels lw_privs ++ tables_1
theorem lw_privs_ok : ∀ q ∈ lw_privs, lw_okq q := by
  show ∀ q ∈ lw_privs_1 ++ (lw_privs_2 ++ (lw_privs_3)), lw_okq q
  exact List.forall_mem_append.mpr ⟨lw_r1, List.forall_mem_append.mpr ⟨lw_r2, lw_r3⟩⟩
end
section
/-! ===== BEGIN words of one list among another's, by their places ===== -/
theorem goodIn_r {big : List Cond} (ws : List Cond) (ps : List Nat) (hp : ws = ps.filterMap (fun i => big[i]?)) (h : ws.all goodWord = true) : GoodIn big ws := by
  intro w hw
  have h1 := List.all_eq_true.mp h w hw
  rw [hp] at hw
  obtain ⟨i, -, hi⟩ := List.mem_filterMap.mp hw
  have hm : w ∈ big := by first | exact List.mem_of_getElem? hi | exact List.getElem?_mem hi
  exact ⟨hm, good_of_word h1⟩
theorem goodIn_app {big a b : List Cond} (ha : GoodIn big a) (hb : GoodIn big b) : GoodIn big (a ++ b) := fun w h => (List.mem_append.mp h).elim (ha w) (hb w)
theorem goodIn_ca {big a b : List Cond} {c : Cond} (ha : GoodIn big (c :: a)) (hb : GoodIn big b) : GoodIn big (c :: (a ++ b)) := fun w h => (List.mem_cons.mp h).elim (fun e => ha w (List.mem_cons.mpr (Or.inl e))) (fun h => (List.mem_append.mp h).elim (fun h => ha w (List.mem_cons.mpr (Or.inr h))) (hb w))
theorem goodIn_sub {big ws : List Cond} (hm : ∀ w ∈ ws, w ∈ big) (h : ws.all goodWord = true) : GoodIn big ws := fun w hw => ⟨hm w hw, good_of_word (List.all_eq_true.mp h w hw)⟩
/-! ===== END ===== -/

/-! ===== BEGIN printed: names, fields, word lists, decode rows ===== -/
def RX0 : String := "VoiceRows$Bill"
def TX0 : u_T := fun k => match k with
  | 0 => ("VoiceRows$Bill", "score", "LVoiceRows$Score;", true)
  | 1 => ("VoiceRows$Bill", "weights", "[I", true)
  | _ => ("VoiceRows$Bill", "pairRows", "LVoiceRows$PairRows;", true)
def tyX0 : Nat → FieldType := fun k => match k with
  | 0 => .object "VoiceRows$Score"
  | 1 => .array .int
  | _ => .object "VoiceRows$PairRows"
abbrev wsX00 : List Cond := u_ws RX0 TX0 3
theorem nmX0 : ∀ a, a < 3 → ∀ b, b < 3 → a ≠ b → (TX0 a).2.1 ≠ (TX0 b).2.1 := by decide +kernel
theorem tyX0_ok : ∀ k, k < 3 → parseFieldDescriptor (TX0 k).2.2.1 = some (tyX0 k) := by decide +kernel
abbrev cX0_init : ByteArray := prog_2_method_1_code
def yX0_init : MethodName := ⟨RX0, "<init>", "(LVoiceRows$Score;[ILVoiceRows$PairRows;)V"⟩
abbrev cX0_part : ByteArray := prog_2_method_2_code
def yX0_part : MethodName := ⟨RX0, "part", "(I)I"⟩
abbrev cX0_leaps : ByteArray := prog_2_method_3_code
def yX0_leaps : MethodName := ⟨RX0, "leaps", "()I"⟩
abbrev cX0_gaps : ByteArray := prog_2_method_4_code
def yX0_gaps : MethodName := ⟨RX0, "gaps", "()I"⟩
abbrev cX0_crossings : ByteArray := prog_2_method_5_code
def yX0_crossings : MethodName := ⟨RX0, "crossings", "()I"⟩
abbrev cX0_used : ByteArray := prog_2_method_6_code
def yX0_used : MethodName := ⟨RX0, "used", "()I"⟩
def RX1 : String := "VoiceRows$Finder"
def TX1 : u_T := fun k => match k with
  | 0 => ("VoiceRows$Finder", "score", "LVoiceRows$Score;", true)
  | 1 => ("VoiceRows$Finder", "lines", "LVoiceRows$Lines;", true)
  | 2 => ("VoiceRows$Finder", "place", "[I", true)
  | 3 => ("VoiceRows$Finder", "voices", "I", false)
  | _ => ("VoiceRows$Finder", "known", "[I", false)
def tyX1 : Nat → FieldType := fun k => match k with
  | 0 => .object "VoiceRows$Score"
  | 1 => .object "VoiceRows$Lines"
  | 2 => .array .int
  | 3 => .int
  | _ => .array .int
abbrev wsX10 : List Cond := u_ws RX1 TX1 5
theorem nmX1 : ∀ a, a < 5 → ∀ b, b < 5 → a ≠ b → (TX1 a).2.1 ≠ (TX1 b).2.1 := by decide +kernel
theorem tyX1_ok : ∀ k, k < 5 → parseFieldDescriptor (TX1 k).2.2.1 = some (tyX1 k) := by decide +kernel
abbrev cX1_init : ByteArray := prog_3_method_1_code
def yX1_init : MethodName := ⟨RX1, "<init>", "(LVoiceRows$Score;LVoiceRows$Lines;)V"⟩
abbrev cX1_search : ByteArray := prog_3_method_2_code
def yX1_search : MethodName := ⟨RX1, "search", "(I)I"⟩
abbrev cX1_giveFound : ByteArray := prog_3_method_3_code
def yX1_giveFound : MethodName := ⟨RX1, "giveFound", "()V"⟩
abbrev cX1_makeStates : ByteArray := prog_3_method_4_code
def yX1_makeStates : MethodName := ⟨RX1, "makeStates", "()V"⟩
abbrev cX1_onward : ByteArray := prog_3_method_5_code
def yX1_onward : MethodName := ⟨RX1, "onward", "(II)I"⟩
abbrev cX1_through : ByteArray := prog_3_method_6_code
def yX1_through : MethodName := ⟨RX1, "through", "(III)I"⟩
abbrev cX1_stateBehind : ByteArray := prog_3_method_7_code
def yX1_stateBehind : MethodName := ⟨RX1, "stateBehind", "(III)I"⟩
abbrev cX1_firstBest : ByteArray := prog_3_method_8_code
def yX1_firstBest : MethodName := ⟨RX1, "firstBest", "(II)I"⟩
def RX2 : String := "VoiceRows$Goer"
def TX2 : u_T := fun k => match k with
  | 0 => ("VoiceRows$Goer", "score", "LVoiceRows$Score;", true)
  | 1 => ("VoiceRows$Goer", "lines", "LVoiceRows$Lines;", true)
  | _ => ("VoiceRows$Goer", "chosen", "[I", true)
def tyX2 : Nat → FieldType := fun k => match k with
  | 0 => .object "VoiceRows$Score"
  | 1 => .object "VoiceRows$Lines"
  | _ => .array .int
abbrev wsX20 : List Cond := u_ws RX2 TX2 3
theorem nmX2 : ∀ a, a < 3 → ∀ b, b < 3 → a ≠ b → (TX2 a).2.1 ≠ (TX2 b).2.1 := by decide +kernel
theorem tyX2_ok : ∀ k, k < 3 → parseFieldDescriptor (TX2 k).2.2.1 = some (tyX2 k) := by decide +kernel
abbrev cX2_init : ByteArray := prog_4_method_1_code
def yX2_init : MethodName := ⟨RX2, "<init>", "(LVoiceRows$Score;LVoiceRows$Lines;)V"⟩
abbrev cX2_go : ByteArray := prog_4_method_2_code
def yX2_go : MethodName := ⟨RX2, "go", "(I)Z"⟩
abbrev cX2_cheapest : ByteArray := prog_4_method_3_code
def yX2_cheapest : MethodName := ⟨RX2, "cheapest", "(II)I"⟩
def RX3 : String := "VoiceRows$Lines"
def TX3 : u_T := fun k => match k with
  | 0 => ("VoiceRows$Lines", "score", "LVoiceRows$Score;", true)
  | 1 => ("VoiceRows$Lines", "weights", "[I", true)
  | _ => ("VoiceRows$Lines", "last", "[I", true)
def tyX3 : Nat → FieldType := fun k => match k with
  | 0 => .object "VoiceRows$Score"
  | 1 => .array .int
  | _ => .array .int
abbrev wsX30 : List Cond := u_ws RX3 TX3 3
theorem nmX3 : ∀ a, a < 3 → ∀ b, b < 3 → a ≠ b → (TX3 a).2.1 ≠ (TX3 b).2.1 := by decide +kernel
theorem tyX3_ok : ∀ k, k < 3 → parseFieldDescriptor (TX3 k).2.2.1 = some (tyX3 k) := by decide +kernel
abbrev cX3_init : ByteArray := prog_5_method_1_code
def yX3_init : MethodName := ⟨RX3, "<init>", "(LVoiceRows$Score;[I)V"⟩
abbrev cX3_empty : ByteArray := prog_5_method_2_code
def yX3_empty : MethodName := ⟨RX3, "empty", "()V"⟩
abbrev cX3_added : ByteArray := prog_5_method_3_code
def yX3_added : MethodName := ⟨RX3, "added", "(II)I"⟩
abbrev cX3_crossed : ByteArray := prog_5_method_4_code
def yX3_crossed : MethodName := ⟨RX3, "crossed", "(II)I"⟩
def RX4 : String := "VoiceRows$PairRows"
def TX4 : u_T := fun k => match k with
  | 0 => ("VoiceRows$PairRows", "score", "LVoiceRows$Score;", true)
  | 1 => ("VoiceRows$PairRows", "one", "I", false)
  | _ => ("VoiceRows$PairRows", "other", "I", false)
def tyX4 : Nat → FieldType := fun k => match k with
  | 0 => .object "VoiceRows$Score"
  | 1 => .int
  | _ => .int
abbrev wsX40 : List Cond := u_ws RX4 TX4 3
theorem nmX4 : ∀ a, a < 3 → ∀ b, b < 3 → a ≠ b → (TX4 a).2.1 ≠ (TX4 b).2.1 := by decide +kernel
theorem tyX4_ok : ∀ k, k < 3 → parseFieldDescriptor (TX4 k).2.2.1 = some (tyX4 k) := by decide +kernel
abbrev cX4_init : ByteArray := prog_6_method_1_code
def yX4_init : MethodName := ⟨RX4, "<init>", "(LVoiceRows$Score;)V"⟩
abbrev cX4_scan : ByteArray := prog_6_method_2_code
def yX4_scan : MethodName := ⟨RX4, "scan", "(II)I"⟩
abbrev cX4_isPair : ByteArray := prog_6_method_3_code
def yX4_isPair : MethodName := ⟨RX4, "isPair", "(III)Z"⟩
abbrev cX4_isUnder : ByteArray := prog_6_method_4_code
def yX4_isUnder : MethodName := ⟨RX4, "isUnder", "(II)Z"⟩
abbrev cX4_doMeet : ByteArray := prog_6_method_5_code
def yX4_doMeet : MethodName := ⟨RX4, "doMeet", "(II)Z"⟩
abbrev cX4_sameSpan : ByteArray := prog_6_method_6_code
def yX4_sameSpan : MethodName := ⟨RX4, "sameSpan", "(II)Z"⟩
def RX5 : String := "VoiceRows$RestRows"
def TX5 : u_T := fun k => match k with
  | 0 => ("VoiceRows$RestRows", "score", "LVoiceRows$Score;", true)
  | 1 => ("VoiceRows$RestRows", "count", "I", false)
  | 2 => ("VoiceRows$RestRows", "begin", "[I", true)
  | _ => ("VoiceRows$RestRows", "end", "[I", true)
def tyX5 : Nat → FieldType := fun k => match k with
  | 0 => .object "VoiceRows$Score"
  | 1 => .int
  | 2 => .array .int
  | _ => .array .int
abbrev wsX50 : List Cond := u_ws RX5 TX5 4
theorem nmX5 : ∀ a, a < 4 → ∀ b, b < 4 → a ≠ b → (TX5 a).2.1 ≠ (TX5 b).2.1 := by decide +kernel
theorem tyX5_ok : ∀ k, k < 4 → parseFieldDescriptor (TX5 k).2.2.1 = some (tyX5 k) := by decide +kernel
abbrev cX5_init : ByteArray := prog_7_method_1_code
def yX5_init : MethodName := ⟨RX5, "<init>", "(LVoiceRows$Score;)V"⟩
abbrev cX5_collect : ByteArray := prog_7_method_2_code
def yX5_collect : MethodName := ⟨RX5, "collect", "(I)V"⟩
abbrev cX5_breaksRest : ByteArray := prog_7_method_3_code
def yX5_breaksRest : MethodName := ⟨RX5, "breaksRest", "(II)Z"⟩
abbrev cX5_keep : ByteArray := prog_7_method_4_code
def yX5_keep : MethodName := ⟨RX5, "keep", "(II)V"⟩
def RX6 : String := "VoiceRows$Score"
def TX6 : u_T := fun k => match k with
  | 0 => ("VoiceRows$Score", "count", "I", false)
  | 1 => ("VoiceRows$Score", "from", "[I", true)
  | 2 => ("VoiceRows$Score", "to", "[I", true)
  | 3 => ("VoiceRows$Score", "pitch", "[I", true)
  | 4 => ("VoiceRows$Score", "voice", "[I", true)
  | 5 => ("VoiceRows$Score", "order", "[I", true)
  | _ => ("VoiceRows$Score", "rank", "[I", true)
def tyX6 : Nat → FieldType := fun k => match k with
  | 0 => .int
  | 1 => .array .int
  | 2 => .array .int
  | 3 => .array .int
  | 4 => .array .int
  | 5 => .array .int
  | _ => .array .int
abbrev wsX60 : List Cond := u_ws RX6 TX6 7
theorem nmX6 : ∀ a, a < 7 → ∀ b, b < 7 → a ≠ b → (TX6 a).2.1 ≠ (TX6 b).2.1 := by decide +kernel
theorem tyX6_ok : ∀ k, k < 7 → parseFieldDescriptor (TX6 k).2.2.1 = some (tyX6 k) := by decide +kernel
abbrev cX6_init : ByteArray := prog_8_method_1_code
def yX6_init : MethodName := ⟨RX6, "<init>", "()V"⟩
abbrev cX6_has : ByteArray := prog_8_method_2_code
def yX6_has : MethodName := ⟨RX6, "has", "(I)Z"⟩
abbrev cX6_add : ByteArray := prog_8_method_3_code
def yX6_add : MethodName := ⟨RX6, "add", "(III)I"⟩
abbrev cX6_change : ByteArray := prog_8_method_4_code
def yX6_change : MethodName := ⟨RX6, "change", "(IIII)V"⟩
abbrev cX6_sortOrder : ByteArray := prog_8_method_5_code
def yX6_sortOrder : MethodName := ⟨RX6, "sortOrder", "()V"⟩
abbrev cX6_isBefore : ByteArray := prog_8_method_6_code
def yX6_isBefore : MethodName := ⟨RX6, "isBefore", "(II)Z"⟩
abbrev cX6_together : ByteArray := prog_8_method_7_code
def yX6_together : MethodName := ⟨RX6, "together", "(II)Z"⟩
abbrev cX6_following : ByteArray := prog_8_method_8_code
def yX6_following : MethodName := ⟨RX6, "following", "(I)I"⟩
abbrev cX6_clashes : ByteArray := prog_8_method_9_code
def yX6_clashes : MethodName := ⟨RX6, "clashes", "(I)I"⟩
abbrev cX6_isWhole : ByteArray := prog_8_method_10_code
def yX6_isWhole : MethodName := ⟨RX6, "isWhole", "()Z"⟩
abbrev cX6_soundingAt : ByteArray := prog_8_method_11_code
def yX6_soundingAt : MethodName := ⟨RX6, "soundingAt", "(I)I"⟩
abbrev cX6_thickest : ByteArray := prog_8_method_12_code
def yX6_thickest : MethodName := ⟨RX6, "thickest", "()I"⟩
abbrev cX6_theEnd : ByteArray := prog_8_method_13_code
def yX6_theEnd : MethodName := ⟨RX6, "theEnd", "()I"⟩
abbrev cX6_notesIn : ByteArray := prog_8_method_14_code
def yX6_notesIn : MethodName := ⟨RX6, "notesIn", "(I)I"⟩
abbrev cX6_voicesUsed : ByteArray := prog_8_method_15_code
def yX6_voicesUsed : MethodName := ⟨RX6, "voicesUsed", "()I"⟩
abbrev cX6_lowestIn : ByteArray := prog_8_method_16_code
def yX6_lowestIn : MethodName := ⟨RX6, "lowestIn", "(I)I"⟩
abbrev cX6_highestIn : ByteArray := prog_8_method_17_code
def yX6_highestIn : MethodName := ⟨RX6, "highestIn", "(I)I"⟩
def RX7 : String := "VoiceRows"
def TX7 : u_T := fun k => match k with
  | 0 => ("VoiceRows", "score", "LVoiceRows$Score;", true)
  | 1 => ("VoiceRows", "weights", "[I", true)
  | 2 => ("VoiceRows", "restRows", "LVoiceRows$RestRows;", true)
  | 3 => ("VoiceRows", "pairRows", "LVoiceRows$PairRows;", true)
  | 4 => ("VoiceRows", "bill", "LVoiceRows$Bill;", true)
  | 5 => ("VoiceRows", "finder", "LVoiceRows$Finder;", true)
  | _ => ("VoiceRows", "goer", "LVoiceRows$Goer;", true)
def tyX7 : Nat → FieldType := fun k => match k with
  | 0 => .object "VoiceRows$Score"
  | 1 => .array .int
  | 2 => .object "VoiceRows$RestRows"
  | 3 => .object "VoiceRows$PairRows"
  | 4 => .object "VoiceRows$Bill"
  | 5 => .object "VoiceRows$Finder"
  | _ => .object "VoiceRows$Goer"
abbrev wsX70 : List Cond := u_ws RX7 TX7 7
theorem nmX7 : ∀ a, a < 7 → ∀ b, b < 7 → a ≠ b → (TX7 a).2.1 ≠ (TX7 b).2.1 := by decide +kernel
theorem tyX7_ok : ∀ k, k < 7 → parseFieldDescriptor (TX7 k).2.2.1 = some (tyX7 k) := by decide +kernel
abbrev cX7_init : ByteArray := prog_1_method_1_code
def yX7_init : MethodName := ⟨RX7, "<init>", "()V"⟩
abbrev cX7_clear : ByteArray := prog_1_method_2_code
def yX7_clear : MethodName := ⟨RX7, "clear", "()I"⟩
abbrev cX7_note : ByteArray := prog_1_method_3_code
def yX7_note : MethodName := ⟨RX7, "note", "(III)I"⟩
abbrev cX7_move : ByteArray := prog_1_method_4_code
def yX7_move : MethodName := ⟨RX7, "move", "(IIII)I"⟩
abbrev cX7_weigh : ByteArray := prog_1_method_5_code
def yX7_weigh : MethodName := ⟨RX7, "weigh", "(II)I"⟩
abbrev cX7_put : ByteArray := prog_1_method_6_code
def yX7_put : MethodName := ⟨RX7, "put", "(II)I"⟩
abbrev cX7_find : ByteArray := prog_1_method_7_code
def yX7_find : MethodName := ⟨RX7, "find", "(I)I"⟩
abbrev cX7_least : ByteArray := prog_1_method_8_code
def yX7_least : MethodName := ⟨RX7, "least", "(I)I"⟩
abbrev cX7_along : ByteArray := prog_1_method_9_code
def yX7_along : MethodName := ⟨RX7, "along", "(I)I"⟩
abbrev cX7_cost : ByteArray := prog_1_method_10_code
def yX7_cost : MethodName := ⟨RX7, "cost", "(I)I"⟩
abbrev cX7_of : ByteArray := prog_1_method_11_code
def yX7_of : MethodName := ⟨RX7, "of", "(II)I"⟩
abbrev cX7_ranked : ByteArray := prog_1_method_12_code
def yX7_ranked : MethodName := ⟨RX7, "ranked", "(I)I"⟩
abbrev cX7_sounding : ByteArray := prog_1_method_13_code
def yX7_sounding : MethodName := ⟨RX7, "sounding", "(I)I"⟩
abbrev cX7_needed : ByteArray := prog_1_method_14_code
def yX7_needed : MethodName := ⟨RX7, "needed", "()I"⟩
abbrev cX7_rests : ByteArray := prog_1_method_15_code
def yX7_rests : MethodName := ⟨RX7, "rests", "(I)I"⟩
abbrev cX7_rest : ByteArray := prog_1_method_16_code
def yX7_rest : MethodName := ⟨RX7, "rest", "(III)I"⟩
abbrev cX7_pairs : ByteArray := prog_1_method_17_code
def yX7_pairs : MethodName := ⟨RX7, "pairs", "(I)I"⟩
abbrev cX7_pair : ByteArray := prog_1_method_18_code
def yX7_pair : MethodName := ⟨RX7, "pair", "(III)I"⟩
abbrev cX7_voice : ByteArray := prog_1_method_19_code
def yX7_voice : MethodName := ⟨RX7, "voice", "(II)I"⟩
abbrev cX7_told : ByteArray := prog_1_method_20_code
def yX7_told : MethodName := ⟨RX7, "told", "(I)I"⟩
abbrev cX7_within : ByteArray := prog_1_method_21_code
def yX7_within : MethodName := ⟨RX7, "within", "(III)Z"⟩
abbrev cX7_canSound : ByteArray := prog_1_method_22_code
def yX7_canSound : MethodName := ⟨RX7, "canSound", "(III)Z"⟩
def RX8 : String := "VoiceRowsModel"
def TX8 : u_T := fun k => match k with
  | 0 => ("VoiceRowsModel", "from", "[I", true)
  | 1 => ("VoiceRowsModel", "to", "[I", true)
  | 2 => ("VoiceRowsModel", "pitch", "[I", true)
  | 3 => ("VoiceRowsModel", "voice", "[I", true)
  | 4 => ("VoiceRowsModel", "notes", "I", false)
  | 5 => ("VoiceRowsModel", "weights", "[I", true)
  | 6 => ("VoiceRowsModel", "order", "[I", true)
  | 7 => ("VoiceRowsModel", "given", "[I", true)
  | 8 => ("VoiceRowsModel", "last", "[I", true)
  | _ => ("VoiceRowsModel", "rest", "[I", true)
def tyX8 : Nat → FieldType := fun k => match k with
  | 0 => .array .int
  | 1 => .array .int
  | 2 => .array .int
  | 3 => .array .int
  | 4 => .int
  | 5 => .array .int
  | 6 => .array .int
  | 7 => .array .int
  | 8 => .array .int
  | _ => .array .int
abbrev wsX80 : List Cond := u_ws RX8 TX8 10
theorem nmX8 : ∀ a, a < 10 → ∀ b, b < 10 → a ≠ b → (TX8 a).2.1 ≠ (TX8 b).2.1 := by decide +kernel
theorem tyX8_ok : ∀ k, k < 10 → parseFieldDescriptor (TX8 k).2.2.1 = some (tyX8 k) := by decide +kernel
abbrev cX8_init : ByteArray := prog_10_method_1_code
def yX8_init : MethodName := ⟨RX8, "<init>", "()V"⟩
abbrev cX8_clear : ByteArray := prog_10_method_2_code
def yX8_clear : MethodName := ⟨RX8, "clear", "()I"⟩
abbrev cX8_isNote : ByteArray := prog_10_method_3_code
def yX8_isNote : MethodName := ⟨RX8, "isNote", "(III)Z"⟩
abbrev cX8_ahead : ByteArray := prog_10_method_4_code
def yX8_ahead : MethodName := ⟨RX8, "ahead", "(II)Z"⟩
abbrev cX8_rank : ByteArray := prog_10_method_5_code
def yX8_rank : MethodName := ⟨RX8, "rank", "(I)I"⟩
abbrev cX8_sort : ByteArray := prog_10_method_6_code
def yX8_sort : MethodName := ⟨RX8, "sort", "()V"⟩
abbrev cX8_together : ByteArray := prog_10_method_7_code
def yX8_together : MethodName := ⟨RX8, "together", "(II)Z"⟩
abbrev cX8_note : ByteArray := prog_10_method_8_code
def yX8_note : MethodName := ⟨RX8, "note", "(III)I"⟩
abbrev cX8_move : ByteArray := prog_10_method_9_code
def yX8_move : MethodName := ⟨RX8, "move", "(IIII)I"⟩
abbrev cX8_weigh : ByteArray := prog_10_method_10_code
def yX8_weigh : MethodName := ⟨RX8, "weigh", "(II)I"⟩
abbrev cX8_put : ByteArray := prog_10_method_11_code
def yX8_put : MethodName := ⟨RX8, "put", "(II)I"⟩
abbrev cX8_place : ByteArray := prog_10_method_12_code
def yX8_place : MethodName := ⟨RX8, "place", "(I)I"⟩
abbrev cX8_price : ByteArray := prog_10_method_13_code
def yX8_price : MethodName := ⟨RX8, "price", "(II)I"⟩
abbrev cX8_level : ByteArray := prog_10_method_14_code
def yX8_level : MethodName := ⟨RX8, "level", "(II)V"⟩
abbrev cX8_through : ByteArray := prog_10_method_15_code
def yX8_through : MethodName := ⟨RX8, "through", "(II)I"⟩
abbrev cX8_leastOf : ByteArray := prog_10_method_16_code
def yX8_leastOf : MethodName := ⟨RX8, "leastOf", "(II)I"⟩
abbrev cX8_search : ByteArray := prog_10_method_17_code
def yX8_search : MethodName := ⟨RX8, "search", "(I)I"⟩
abbrev cX8_least : ByteArray := prog_10_method_18_code
def yX8_least : MethodName := ⟨RX8, "least", "(I)I"⟩
abbrev cX8_give : ByteArray := prog_10_method_19_code
def yX8_give : MethodName := ⟨RX8, "give", "()V"⟩
abbrev cX8_find : ByteArray := prog_10_method_20_code
def yX8_find : MethodName := ⟨RX8, "find", "(I)I"⟩
abbrev cX8_along : ByteArray := prog_10_method_21_code
def yX8_along : MethodName := ⟨RX8, "along", "(I)I"⟩
abbrev cX8_clashes : ByteArray := prog_10_method_22_code
def yX8_clashes : MethodName := ⟨RX8, "clashes", "(I)I"⟩
abbrev cX8_isWhole : ByteArray := prog_10_method_23_code
def yX8_isWhole : MethodName := ⟨RX8, "isWhole", "()Z"⟩
abbrev cX8_nextOf : ByteArray := prog_10_method_24_code
def yX8_nextOf : MethodName := ⟨RX8, "nextOf", "(I)I"⟩
abbrev cX8_size : ByteArray := prog_10_method_25_code
def yX8_size : MethodName := ⟨RX8, "size", "(I)I"⟩
abbrev cX8_used : ByteArray := prog_10_method_26_code
def yX8_used : MethodName := ⟨RX8, "used", "()I"⟩
abbrev cX8_cost : ByteArray := prog_10_method_27_code
def yX8_cost : MethodName := ⟨RX8, "cost", "(I)I"⟩
abbrev cX8_of : ByteArray := prog_10_method_28_code
def yX8_of : MethodName := ⟨RX8, "of", "(II)I"⟩
abbrev cX8_ranked : ByteArray := prog_10_method_29_code
def yX8_ranked : MethodName := ⟨RX8, "ranked", "(I)I"⟩
abbrev cX8_at : ByteArray := prog_10_method_30_code
def yX8_at : MethodName := ⟨RX8, "at", "(I)I"⟩
abbrev cX8_sounding : ByteArray := prog_10_method_31_code
def yX8_sounding : MethodName := ⟨RX8, "sounding", "(I)I"⟩
abbrev cX8_needed : ByteArray := prog_10_method_32_code
def yX8_needed : MethodName := ⟨RX8, "needed", "()I"⟩
abbrev cX8_theEnd : ByteArray := prog_10_method_33_code
def yX8_theEnd : MethodName := ⟨RX8, "theEnd", "()I"⟩
abbrev cX8_isOf : ByteArray := prog_10_method_34_code
def yX8_isOf : MethodName := ⟨RX8, "isOf", "(II)Z"⟩
abbrev cX8_silence : ByteArray := prog_10_method_35_code
def yX8_silence : MethodName := ⟨RX8, "silence", "(II)I"⟩
abbrev cX8_sound : ByteArray := prog_10_method_36_code
def yX8_sound : MethodName := ⟨RX8, "sound", "(II)I"⟩
abbrev cX8_restOf : ByteArray := prog_10_method_37_code
def yX8_restOf : MethodName := ⟨RX8, "restOf", "(IIZ)I"⟩
abbrev cX8_rests : ByteArray := prog_10_method_38_code
def yX8_rests : MethodName := ⟨RX8, "rests", "(I)I"⟩
abbrev cX8_rest : ByteArray := prog_10_method_39_code
def yX8_rest : MethodName := ⟨RX8, "rest", "(III)I"⟩
abbrev cX8_isPair : ByteArray := prog_10_method_40_code
def yX8_isPair : MethodName := ⟨RX8, "isPair", "(III)Z"⟩
abbrev cX8_pairOf : ByteArray := prog_10_method_41_code
def yX8_pairOf : MethodName := ⟨RX8, "pairOf", "(III)I"⟩
abbrev cX8_pairs : ByteArray := prog_10_method_42_code
def yX8_pairs : MethodName := ⟨RX8, "pairs", "(I)I"⟩
abbrev cX8_pair : ByteArray := prog_10_method_43_code
def yX8_pair : MethodName := ⟨RX8, "pair", "(III)I"⟩
abbrev cX8_voice : ByteArray := prog_10_method_44_code
def yX8_voice : MethodName := ⟨RX8, "voice", "(II)I"⟩
abbrev cX8_told : ByteArray := prog_10_method_45_code
def yX8_told : MethodName := ⟨RX8, "told", "(I)I"⟩
def RJx8e188 : String := "java/lang/Cloneable"
def TJx8e188 : u_T := fun k => match k with
  | _ => ("", "", "", false)
def tyJx8e188 : Nat → FieldType := fun k => match k with
  | _ => .int
abbrev wsJx8e1880 : List Cond := u_ws RJx8e188 TJx8e188 0
theorem nmJx8e188 : ∀ a, a < 0 → ∀ b, b < 0 → a ≠ b → (TJx8e188 a).2.1 ≠ (TJx8e188 b).2.1 := by decide +kernel
theorem tyJx8e188_ok : ∀ k, k < 0 → parseFieldDescriptor (TJx8e188 k).2.2.1 = some (tyJx8e188 k) := by decide +kernel
def RJ9 : String := "java/lang/Math"
def TJ9 : u_T := fun k => match k with
  | _ => ("", "", "", false)
def tyJ9 : Nat → FieldType := fun k => match k with
  | _ => .int
abbrev wsJ90 : List Cond := u_ws RJ9 TJ9 0
theorem nmJ9 : ∀ a, a < 0 → ∀ b, b < 0 → a ≠ b → (TJ9 a).2.1 ≠ (TJ9 b).2.1 := by decide +kernel
theorem tyJ9_ok : ∀ k, k < 0 → parseFieldDescriptor (TJ9 k).2.2.1 = some (tyJ9 k) := by decide +kernel
abbrev cJ9_abs_0f7a4 : ByteArray := prog_12_method_59_code
def yJ9_abs_0f7a4 : MethodName := ⟨RJ9, "abs", "(I)I"⟩
abbrev cJ9_max_7cf53 : ByteArray := prog_12_method_65_code
def yJ9_max_7cf53 : MethodName := ⟨RJ9, "max", "(II)I"⟩
abbrev cJ9_min_7cf53 : ByteArray := prog_12_method_69_code
def yJ9_min_7cf53 : MethodName := ⟨RJ9, "min", "(II)I"⟩
def RJ10 : String := "java/lang/System"
def TJ10 : u_T := fun k => match k with
  | _ => ("", "", "", false)
def tyJ10 : Nat → FieldType := fun k => match k with
  | _ => .int
abbrev wsJ100 : List Cond := u_ws RJ10 TJ10 0
theorem nmJ10 : ∀ a, a < 0 → ∀ b, b < 0 → a ≠ b → (TJ10 a).2.1 ≠ (TJ10 b).2.1 := by decide +kernel
theorem tyJ10_ok : ∀ k, k < 0 → parseFieldDescriptor (TJ10 k).2.2.1 = some (tyJ10 k) := by decide +kernel
def RJ7 : String := "java/util/Arrays"
def TJ7 : u_T := fun k => match k with
  | _ => ("", "", "", false)
def tyJ7 : Nat → FieldType := fun k => match k with
  | _ => .int
abbrev wsJ70 : List Cond := u_ws RJ7 TJ7 0
theorem nmJ7 : ∀ a, a < 0 → ∀ b, b < 0 → a ≠ b → (TJ7 a).2.1 ≠ (TJ7 b).2.1 := by decide +kernel
theorem tyJ7_ok : ∀ k, k < 0 → parseFieldDescriptor (TJ7 k).2.2.1 = some (tyJ7 k) := by decide +kernel
abbrev cJ7_rangeCheck_23922 : ByteArray := prog_14_method_30_code
def yJ7_rangeCheck_23922 : MethodName := ⟨RJ7, "rangeCheck", "(III)V"⟩
abbrev cJ7_fill_53178 : ByteArray := prog_14_method_103_code
def yJ7_fill_53178 : MethodName := ⟨RJ7, "fill", "([II)V"⟩
abbrev cJ7_fill_fda19 : ByteArray := prog_14_method_104_code
def yJ7_fill_fda19 : MethodName := ⟨RJ7, "fill", "([IIII)V"⟩
def RL : String := "VoiceRowsLaw"
abbrev cL_law : ByteArray := code
def yL_law : MethodName := ⟨RL, "law", "([I)Z"⟩
def wsX0_init : List Cond := .code yX0_init cX0_init 4 none :: ([.methodLink RX0 3 objectInit, .instanceMethod objectInit, .code objectInit ⟨#[0xb1]⟩ 1 none, .fieldLink RX0 9 "VoiceRows$Bill" "score" "LVoiceRows$Score;", .fieldLink RX0 15 "VoiceRows$Bill" "weights" "[I", .fieldLink RX0 19 "VoiceRows$Bill" "pairRows" "LVoiceRows$PairRows;"] ++ wsX00)
def wsX6_following : List Cond := .code yX6_following cX6_following 3 (some .int) :: ([.fieldLink RX6 21 "VoiceRows$Score" "voice" "[I", .fieldLink RX6 27 "VoiceRows$Score" "rank" "[I", .fieldLink RX6 30 "VoiceRows$Score" "count" "I", .fieldLink RX6 24 "VoiceRows$Score" "order" "[I"] ++ wsX60)
def wsX0_leaps : List Cond := .code yX0_leaps cX0_leaps 4 (some .int) :: ([.fieldLink RX0 9 "VoiceRows$Bill" "score" "LVoiceRows$Score;", .fieldLink RX0 36 "VoiceRows$Score" "count" "I", .fieldLink RX0 46 "VoiceRows$Score" "pitch" "[I", .methodLink RX0 49 Lib.Math.abs.name, .static Lib.Math.abs.name, .initialized "java/lang/Math", .code Lib.Math.abs.name Lib.Math.abs.code 1 (some .int), .fieldLink RX0 15 "VoiceRows$Bill" "weights" "[I", .methodLink RX0 42 yX6_following, .instanceMethod yX6_following, .selects RX6 yX6_following yX6_following, .initialized RX6, .code yX6_following cX6_following 3 (some .int), .fieldLink RX6 21 "VoiceRows$Score" "voice" "[I", .fieldLink RX6 27 "VoiceRows$Score" "rank" "[I", .fieldLink RX6 30 "VoiceRows$Score" "count" "I", .fieldLink RX6 24 "VoiceRows$Score" "order" "[I"] ++ wsX00 ++ wsX60)
def wsX0_gaps : List Cond := .code yX0_gaps cX0_gaps 4 (some .int) :: ([.fieldLink RX0 9 "VoiceRows$Bill" "score" "LVoiceRows$Score;", .fieldLink RX0 36 "VoiceRows$Score" "count" "I", .fieldLink RX0 54 "VoiceRows$Score" "from" "[I", .fieldLink RX0 57 "VoiceRows$Score" "to" "[I", .fieldLink RX0 15 "VoiceRows$Bill" "weights" "[I", .methodLink RX0 42 yX6_following, .instanceMethod yX6_following, .selects RX6 yX6_following yX6_following, .initialized RX6, .code yX6_following cX6_following 3 (some .int), .fieldLink RX6 21 "VoiceRows$Score" "voice" "[I", .fieldLink RX6 27 "VoiceRows$Score" "rank" "[I", .fieldLink RX6 30 "VoiceRows$Score" "count" "I", .fieldLink RX6 24 "VoiceRows$Score" "order" "[I"] ++ wsX00 ++ wsX60)
def wsX6_together : List Cond := .code yX6_together cX6_together 3 (some .boolean) :: ([.fieldLink RX6 9 "VoiceRows$Score" "from" "[I", .fieldLink RX6 15 "VoiceRows$Score" "to" "[I"] ++ wsX60)
def wsX4_isUnder : List Cond := .code yX4_isUnder cX4_isUnder 3 (some .boolean) :: ([.fieldLink RX4 9 "VoiceRows$PairRows" "score" "LVoiceRows$Score;", .fieldLink RX4 35 "VoiceRows$Score" "voice" "[I", .fieldLink RX4 51 "VoiceRows$Score" "pitch" "[I"] ++ wsX40 ++ wsX60)
def wsX4_doMeet : List Cond := .code yX4_doMeet cX4_doMeet 3 (some .boolean) :: ([.fieldLink RX4 9 "VoiceRows$PairRows" "score" "LVoiceRows$Score;", .fieldLink RX4 35 "VoiceRows$Score" "voice" "[I", .fieldLink RX4 51 "VoiceRows$Score" "pitch" "[I"] ++ wsX40 ++ wsX60)
def wsX4_sameSpan : List Cond := .code yX4_sameSpan cX4_sameSpan 3 (some .boolean) :: ([.fieldLink RX4 9 "VoiceRows$PairRows" "score" "LVoiceRows$Score;", .fieldLink RX4 54 "VoiceRows$Score" "from" "[I", .fieldLink RX4 57 "VoiceRows$Score" "to" "[I"] ++ wsX40 ++ wsX60)
def wsX4_isPair_r1 : List Cond := [Cond.fieldLink RX4 9 "VoiceRows$PairRows" "score" "LVoiceRows$Score;", Cond.fieldLink RX4 35 "VoiceRows$Score" "voice" "[I", Cond.methodLink RX4 38 yX6_together, Cond.instanceMethod yX6_together, Cond.selects RX6 yX6_together yX6_together, Cond.initialized RX6, Cond.code yX6_together cX6_together 3 (some .boolean), Cond.fieldLink RX6 9 "VoiceRows$Score" "from" "[I", Cond.fieldLink RX6 15 "VoiceRows$Score" "to" "[I", Cond.methodLink RX4 42 yX4_isUnder, Cond.instanceMethod yX4_isUnder, Cond.selects RX4 yX4_isUnder yX4_isUnder, Cond.initialized RX4, Cond.code yX4_isUnder cX4_isUnder 3 (some .boolean), Cond.fieldLink RX4 51 "VoiceRows$Score" "pitch" "[I", Cond.methodLink RX4 45 yX4_doMeet, Cond.instanceMethod yX4_doMeet, Cond.selects RX4 yX4_doMeet yX4_doMeet, Cond.code yX4_doMeet cX4_doMeet 3 (some .boolean), Cond.methodLink RX4 48 yX4_sameSpan, Cond.instanceMethod yX4_sameSpan, Cond.selects RX4 yX4_sameSpan yX4_sameSpan, Cond.code yX4_sameSpan cX4_sameSpan 3 (some .boolean), Cond.fieldLink RX4 54 "VoiceRows$Score" "from" "[I"]
def wsX4_isPair_r2 : List Cond := [Cond.fieldLink RX4 57 "VoiceRows$Score" "to" "[I"]
def wsX4_isPair : List Cond := .code yX4_isPair cX4_isPair 4 (some .boolean) :: ((wsX4_isPair_r1 ++ wsX4_isPair_r2) ++ wsX40 ++ wsX60)
def wsX4_scan_r1 : List Cond := [Cond.fieldLink RX4 9 "VoiceRows$PairRows" "score" "LVoiceRows$Score;", Cond.fieldLink RX4 15 "VoiceRows$Score" "count" "I", Cond.fieldLink RX4 21 "VoiceRows$Score" "order" "[I", Cond.fieldLink RX4 29 "VoiceRows$PairRows" "one" "I", Cond.fieldLink RX4 32 "VoiceRows$PairRows" "other" "I", Cond.methodLink RX4 25 yX4_isPair, Cond.instanceMethod yX4_isPair, Cond.selects RX4 yX4_isPair yX4_isPair, Cond.initialized RX4, Cond.code yX4_isPair cX4_isPair 4 (some .boolean), Cond.fieldLink RX4 35 "VoiceRows$Score" "voice" "[I", Cond.methodLink RX4 38 yX6_together, Cond.instanceMethod yX6_together, Cond.selects RX6 yX6_together yX6_together, Cond.initialized RX6, Cond.code yX6_together cX6_together 3 (some .boolean), Cond.fieldLink RX6 9 "VoiceRows$Score" "from" "[I", Cond.fieldLink RX6 15 "VoiceRows$Score" "to" "[I", Cond.methodLink RX4 42 yX4_isUnder, Cond.instanceMethod yX4_isUnder, Cond.selects RX4 yX4_isUnder yX4_isUnder, Cond.code yX4_isUnder cX4_isUnder 3 (some .boolean), Cond.fieldLink RX4 51 "VoiceRows$Score" "pitch" "[I", Cond.methodLink RX4 45 yX4_doMeet]
def wsX4_scan_r2 : List Cond := [Cond.instanceMethod yX4_doMeet, Cond.selects RX4 yX4_doMeet yX4_doMeet, Cond.code yX4_doMeet cX4_doMeet 3 (some .boolean), Cond.methodLink RX4 48 yX4_sameSpan, Cond.instanceMethod yX4_sameSpan, Cond.selects RX4 yX4_sameSpan yX4_sameSpan, Cond.code yX4_sameSpan cX4_sameSpan 3 (some .boolean), Cond.fieldLink RX4 54 "VoiceRows$Score" "from" "[I", Cond.fieldLink RX4 57 "VoiceRows$Score" "to" "[I"]
def wsX4_scan : List Cond := .code yX4_scan cX4_scan 6 (some .int) :: ((wsX4_scan_r1 ++ wsX4_scan_r2) ++ wsX40 ++ wsX60)
def wsX0_crossings_r1 : List Cond := [Cond.fieldLink RX0 19 "VoiceRows$Bill" "pairRows" "LVoiceRows$PairRows;", Cond.fieldLink RX0 15 "VoiceRows$Bill" "weights" "[I", Cond.methodLink RX0 60 yX4_scan, Cond.instanceMethod yX4_scan, Cond.selects RX4 yX4_scan yX4_scan, Cond.initialized RX4, Cond.code yX4_scan cX4_scan 6 (some .int), Cond.fieldLink RX4 9 "VoiceRows$PairRows" "score" "LVoiceRows$Score;", Cond.fieldLink RX4 15 "VoiceRows$Score" "count" "I", Cond.fieldLink RX4 21 "VoiceRows$Score" "order" "[I", Cond.fieldLink RX4 29 "VoiceRows$PairRows" "one" "I", Cond.fieldLink RX4 32 "VoiceRows$PairRows" "other" "I", Cond.methodLink RX4 25 yX4_isPair, Cond.instanceMethod yX4_isPair, Cond.selects RX4 yX4_isPair yX4_isPair, Cond.code yX4_isPair cX4_isPair 4 (some .boolean), Cond.fieldLink RX4 35 "VoiceRows$Score" "voice" "[I", Cond.methodLink RX4 38 yX6_together, Cond.instanceMethod yX6_together, Cond.selects RX6 yX6_together yX6_together, Cond.initialized RX6, Cond.code yX6_together cX6_together 3 (some .boolean), Cond.fieldLink RX6 9 "VoiceRows$Score" "from" "[I", Cond.fieldLink RX6 15 "VoiceRows$Score" "to" "[I"]
def wsX0_crossings_r2 : List Cond := [Cond.methodLink RX4 42 yX4_isUnder, Cond.instanceMethod yX4_isUnder, Cond.selects RX4 yX4_isUnder yX4_isUnder, Cond.code yX4_isUnder cX4_isUnder 3 (some .boolean), Cond.fieldLink RX4 51 "VoiceRows$Score" "pitch" "[I", Cond.methodLink RX4 45 yX4_doMeet, Cond.instanceMethod yX4_doMeet, Cond.selects RX4 yX4_doMeet yX4_doMeet, Cond.code yX4_doMeet cX4_doMeet 3 (some .boolean), Cond.methodLink RX4 48 yX4_sameSpan, Cond.instanceMethod yX4_sameSpan, Cond.selects RX4 yX4_sameSpan yX4_sameSpan, Cond.code yX4_sameSpan cX4_sameSpan 3 (some .boolean), Cond.fieldLink RX4 54 "VoiceRows$Score" "from" "[I", Cond.fieldLink RX4 57 "VoiceRows$Score" "to" "[I"]
def wsX0_crossings : List Cond := .code yX0_crossings cX0_crossings 1 (some .int) :: ((wsX0_crossings_r1 ++ wsX0_crossings_r2) ++ wsX00 ++ wsX40 ++ wsX60)
def wsX6_notesIn : List Cond := .code yX6_notesIn cX6_notesIn 4 (some .int) :: ([.fieldLink RX6 30 "VoiceRows$Score" "count" "I", .fieldLink RX6 21 "VoiceRows$Score" "voice" "[I"] ++ wsX60)
def wsX6_voicesUsed : List Cond := .code yX6_voicesUsed cX6_voicesUsed 3 (some .int) :: ([.methodLink RX6 65 yX6_notesIn, .instanceMethod yX6_notesIn, .selects RX6 yX6_notesIn yX6_notesIn, .initialized RX6, .code yX6_notesIn cX6_notesIn 4 (some .int), .fieldLink RX6 30 "VoiceRows$Score" "count" "I", .fieldLink RX6 21 "VoiceRows$Score" "voice" "[I"] ++ wsX60)
def wsX0_used : List Cond := .code yX0_used cX0_used 1 (some .int) :: ([.fieldLink RX0 9 "VoiceRows$Bill" "score" "LVoiceRows$Score;", .fieldLink RX0 15 "VoiceRows$Bill" "weights" "[I", .methodLink RX0 66 yX6_voicesUsed, .instanceMethod yX6_voicesUsed, .selects RX6 yX6_voicesUsed yX6_voicesUsed, .initialized RX6, .code yX6_voicesUsed cX6_voicesUsed 3 (some .int), .methodLink RX6 65 yX6_notesIn, .instanceMethod yX6_notesIn, .selects RX6 yX6_notesIn yX6_notesIn, .code yX6_notesIn cX6_notesIn 4 (some .int), .fieldLink RX6 30 "VoiceRows$Score" "count" "I", .fieldLink RX6 21 "VoiceRows$Score" "voice" "[I"] ++ wsX00 ++ wsX60)
def wsX0_part_r1 : List Cond := [Cond.methodLink RX0 23 yX0_leaps, Cond.instanceMethod yX0_leaps, Cond.selects RX0 yX0_leaps yX0_leaps, Cond.initialized RX0, Cond.code yX0_leaps cX0_leaps 4 (some .int), Cond.fieldLink RX0 9 "VoiceRows$Bill" "score" "LVoiceRows$Score;", Cond.fieldLink RX0 36 "VoiceRows$Score" "count" "I", Cond.fieldLink RX0 46 "VoiceRows$Score" "pitch" "[I", Cond.methodLink RX0 49 Lib.Math.abs.name, Cond.static Lib.Math.abs.name, Cond.initialized "java/lang/Math", Cond.code Lib.Math.abs.name Lib.Math.abs.code 1 (some .int), Cond.fieldLink RX0 15 "VoiceRows$Bill" "weights" "[I", Cond.methodLink RX0 42 yX6_following, Cond.instanceMethod yX6_following, Cond.selects RX6 yX6_following yX6_following, Cond.initialized RX6, Cond.code yX6_following cX6_following 3 (some .int), Cond.fieldLink RX6 21 "VoiceRows$Score" "voice" "[I", Cond.fieldLink RX6 27 "VoiceRows$Score" "rank" "[I", Cond.fieldLink RX6 30 "VoiceRows$Score" "count" "I", Cond.fieldLink RX6 24 "VoiceRows$Score" "order" "[I", Cond.methodLink RX0 27 yX0_gaps, Cond.instanceMethod yX0_gaps]
def wsX0_part_r2 : List Cond := [Cond.selects RX0 yX0_gaps yX0_gaps, Cond.code yX0_gaps cX0_gaps 4 (some .int), Cond.fieldLink RX0 54 "VoiceRows$Score" "from" "[I", Cond.fieldLink RX0 57 "VoiceRows$Score" "to" "[I", Cond.methodLink RX0 30 yX0_crossings, Cond.instanceMethod yX0_crossings, Cond.selects RX0 yX0_crossings yX0_crossings, Cond.code yX0_crossings cX0_crossings 1 (some .int), Cond.fieldLink RX0 19 "VoiceRows$Bill" "pairRows" "LVoiceRows$PairRows;", Cond.methodLink RX0 60 yX4_scan, Cond.instanceMethod yX4_scan, Cond.selects RX4 yX4_scan yX4_scan, Cond.initialized RX4, Cond.code yX4_scan cX4_scan 6 (some .int), Cond.fieldLink RX4 9 "VoiceRows$PairRows" "score" "LVoiceRows$Score;", Cond.fieldLink RX4 15 "VoiceRows$Score" "count" "I", Cond.fieldLink RX4 21 "VoiceRows$Score" "order" "[I", Cond.fieldLink RX4 29 "VoiceRows$PairRows" "one" "I", Cond.fieldLink RX4 32 "VoiceRows$PairRows" "other" "I", Cond.methodLink RX4 25 yX4_isPair, Cond.instanceMethod yX4_isPair, Cond.selects RX4 yX4_isPair yX4_isPair, Cond.code yX4_isPair cX4_isPair 4 (some .boolean), Cond.fieldLink RX4 35 "VoiceRows$Score" "voice" "[I"]
def wsX0_part_r3 : List Cond := [Cond.methodLink RX4 38 yX6_together, Cond.instanceMethod yX6_together, Cond.selects RX6 yX6_together yX6_together, Cond.code yX6_together cX6_together 3 (some .boolean), Cond.fieldLink RX6 9 "VoiceRows$Score" "from" "[I", Cond.fieldLink RX6 15 "VoiceRows$Score" "to" "[I", Cond.methodLink RX4 42 yX4_isUnder, Cond.instanceMethod yX4_isUnder, Cond.selects RX4 yX4_isUnder yX4_isUnder, Cond.code yX4_isUnder cX4_isUnder 3 (some .boolean), Cond.fieldLink RX4 51 "VoiceRows$Score" "pitch" "[I", Cond.methodLink RX4 45 yX4_doMeet, Cond.instanceMethod yX4_doMeet, Cond.selects RX4 yX4_doMeet yX4_doMeet, Cond.code yX4_doMeet cX4_doMeet 3 (some .boolean), Cond.methodLink RX4 48 yX4_sameSpan, Cond.instanceMethod yX4_sameSpan, Cond.selects RX4 yX4_sameSpan yX4_sameSpan, Cond.code yX4_sameSpan cX4_sameSpan 3 (some .boolean), Cond.fieldLink RX4 54 "VoiceRows$Score" "from" "[I", Cond.fieldLink RX4 57 "VoiceRows$Score" "to" "[I", Cond.methodLink RX0 33 yX0_used, Cond.instanceMethod yX0_used, Cond.selects RX0 yX0_used yX0_used]
def wsX0_part_r4 : List Cond := [Cond.code yX0_used cX0_used 1 (some .int), Cond.methodLink RX0 66 yX6_voicesUsed, Cond.instanceMethod yX6_voicesUsed, Cond.selects RX6 yX6_voicesUsed yX6_voicesUsed, Cond.code yX6_voicesUsed cX6_voicesUsed 3 (some .int), Cond.methodLink RX6 65 yX6_notesIn, Cond.instanceMethod yX6_notesIn, Cond.selects RX6 yX6_notesIn yX6_notesIn, Cond.code yX6_notesIn cX6_notesIn 4 (some .int)]
def wsX0_part : List Cond := .code yX0_part cX0_part 2 (some .int) :: ((wsX0_part_r1 ++ (wsX0_part_r2 ++ (wsX0_part_r3 ++ wsX0_part_r4))) ++ wsX00 ++ wsX60 ++ wsX40)
def wsX1_init : List Cond := .code yX1_init cX1_init 3 none :: ([.methodLink RX1 3 objectInit, .instanceMethod objectInit, .code objectInit ⟨#[0xb1]⟩ 1 none, .arrayClass .int, .fieldLink RX1 9 "VoiceRows$Finder" "place" "[I", .fieldLink RX1 15 "VoiceRows$Finder" "known" "[I", .fieldLink RX1 18 "VoiceRows$Finder" "score" "LVoiceRows$Score;", .fieldLink RX1 22 "VoiceRows$Finder" "lines" "LVoiceRows$Lines;"] ++ wsX10)
def wsJ7_rangeCheck_23922 : List Cond := .code yJ7_rangeCheck_23922 cJ7_rangeCheck_23922 3 none :: ([])
def wsJ7_fill_fda19 : List Cond := .code yJ7_fill_fda19 cJ7_fill_fda19 5 none :: ([.methodLink RJ7 13 yJ7_rangeCheck_23922, .static yJ7_rangeCheck_23922, .initialized RJ7, .code yJ7_rangeCheck_23922 cJ7_rangeCheck_23922 3 none])
def wsX1_makeStates : List Cond := .code yX1_makeStates cX1_makeStates 3 none :: ([.fieldLink RX1 26 "VoiceRows$Finder" "voices" "I", .fieldLink RX1 9 "VoiceRows$Finder" "place" "[I", .fieldLink RX1 18 "VoiceRows$Finder" "score" "LVoiceRows$Score;", .fieldLink RX1 42 "VoiceRows$Score" "count" "I", .fieldLink RX1 15 "VoiceRows$Finder" "known" "[I", .constant RX1 63 (38416), .methodLink RX1 64 Lib.Math.max.name, .static Lib.Math.max.name, .initialized "java/lang/Math", .code Lib.Math.max.name Lib.Math.max.code 2 (some .int), .methodLink RX1 69 Lib.Math.min.name, .static Lib.Math.min.name, .code Lib.Math.min.name Lib.Math.min.code 2 (some .int), .arrayClass .int, .methodLink RX1 72 yJ7_fill_fda19, .static yJ7_fill_fda19, .initialized RJ7, .code yJ7_fill_fda19 cJ7_fill_fda19 5 none, .methodLink RJ7 13 yJ7_rangeCheck_23922, .static yJ7_rangeCheck_23922, .code yJ7_rangeCheck_23922 cJ7_rangeCheck_23922 3 none] ++ wsX10 ++ wsX60)
def wsJ7_fill_53178 : List Cond := .code yJ7_fill_53178 cJ7_fill_53178 4 none :: ([])
def wsX3_empty : List Cond := .code yX3_empty cX3_empty 1 none :: ([.fieldLink RX3 9 "VoiceRows$Lines" "last" "[I", .methodLink RX3 22 yJ7_fill_53178, .static yJ7_fill_53178, .initialized RJ7, .code yJ7_fill_53178 cJ7_fill_53178 4 none] ++ wsX30)
def wsX3_crossed : List Cond := .code yX3_crossed cX3_crossed 7 (some .int) :: ([.fieldLink RX3 9 "VoiceRows$Lines" "last" "[I", .fieldLink RX3 15 "VoiceRows$Lines" "score" "LVoiceRows$Score;", .fieldLink RX3 37 "VoiceRows$Score" "to" "[I", .fieldLink RX3 32 "VoiceRows$Score" "from" "[I", .fieldLink RX3 40 "VoiceRows$Score" "pitch" "[I", .fieldLink RX3 19 "VoiceRows$Lines" "weights" "[I"] ++ wsX30 ++ wsX60)
def wsX3_added : List Cond := .code yX3_added cX3_added 6 (some .int) :: ([.fieldLink RX3 9 "VoiceRows$Lines" "last" "[I", .fieldLink RX3 19 "VoiceRows$Lines" "weights" "[I", .fieldLink RX3 15 "VoiceRows$Lines" "score" "LVoiceRows$Score;", .fieldLink RX3 32 "VoiceRows$Score" "from" "[I", .fieldLink RX3 37 "VoiceRows$Score" "to" "[I", .fieldLink RX3 40 "VoiceRows$Score" "pitch" "[I", .methodLink RX3 43 Lib.Math.abs.name, .static Lib.Math.abs.name, .initialized "java/lang/Math", .code Lib.Math.abs.name Lib.Math.abs.code 1 (some .int), .methodLink RX3 28 yX3_crossed, .instanceMethod yX3_crossed, .selects RX3 yX3_crossed yX3_crossed, .initialized RX3, .code yX3_crossed cX3_crossed 7 (some .int)] ++ wsX30 ++ wsX60)
def wsX1_stateBehind : List Cond := .code yX1_stateBehind cX1_stateBehind 6 (some .int) :: ([.fieldLink RX1 22 "VoiceRows$Finder" "lines" "LVoiceRows$Lines;", .fieldLink RX1 57 "VoiceRows$Lines" "last" "[I", .fieldLink RX1 18 "VoiceRows$Finder" "score" "LVoiceRows$Score;", .fieldLink RX1 84 "VoiceRows$Score" "rank" "[I", .fieldLink RX1 9 "VoiceRows$Finder" "place" "[I"] ++ wsX10 ++ wsX30 ++ wsX60)
def wsX1_onward_r1 : List Cond := [Cond.fieldLink RX1 18 "VoiceRows$Finder" "score" "LVoiceRows$Score;", Cond.fieldLink RX1 42 "VoiceRows$Score" "count" "I", Cond.fieldLink RX1 15 "VoiceRows$Finder" "known" "[I", Cond.fieldLink RX1 26 "VoiceRows$Finder" "voices" "I", Cond.methodLink RX1 78 yX1_through, Cond.instanceMethod yX1_through, Cond.selects RX1 yX1_through yX1_through, Cond.initialized RX1, Cond.code yX1_through cX1_through 9 (some .int), Cond.fieldLink RX1 47 "VoiceRows$Score" "order" "[I", Cond.fieldLink RX1 22 "VoiceRows$Finder" "lines" "LVoiceRows$Lines;", Cond.fieldLink RX1 57 "VoiceRows$Lines" "last" "[I", Cond.methodLink RX1 81 yX3_added, Cond.instanceMethod yX3_added, Cond.selects RX3 yX3_added yX3_added, Cond.initialized RX3, Cond.code yX3_added cX3_added 6 (some .int), Cond.fieldLink RX3 9 "VoiceRows$Lines" "last" "[I", Cond.fieldLink RX3 19 "VoiceRows$Lines" "weights" "[I", Cond.fieldLink RX3 15 "VoiceRows$Lines" "score" "LVoiceRows$Score;", Cond.fieldLink RX3 32 "VoiceRows$Score" "from" "[I", Cond.fieldLink RX3 37 "VoiceRows$Score" "to" "[I", Cond.fieldLink RX3 40 "VoiceRows$Score" "pitch" "[I", Cond.methodLink RX3 43 Lib.Math.abs.name]
def wsX1_onward_r2 : List Cond := [Cond.static Lib.Math.abs.name, Cond.initialized "java/lang/Math", Cond.code Lib.Math.abs.name Lib.Math.abs.code 1 (some .int), Cond.methodLink RX3 28 yX3_crossed, Cond.instanceMethod yX3_crossed, Cond.selects RX3 yX3_crossed yX3_crossed, Cond.code yX3_crossed cX3_crossed 7 (some .int), Cond.methodLink RX1 53 yX1_stateBehind, Cond.instanceMethod yX1_stateBehind, Cond.selects RX1 yX1_stateBehind yX1_stateBehind, Cond.code yX1_stateBehind cX1_stateBehind 6 (some .int), Cond.fieldLink RX1 84 "VoiceRows$Score" "rank" "[I", Cond.fieldLink RX1 9 "VoiceRows$Finder" "place" "[I", Cond.methodLink RX1 38 yX1_onward, Cond.instanceMethod yX1_onward, Cond.selects RX1 yX1_onward yX1_onward]
def wsX1_onward : List Cond := .code yX1_onward cX1_onward 6 (some .int) :: ((wsX1_onward_r1 ++ wsX1_onward_r2) ++ wsX10 ++ wsX60 ++ wsX30)
def wsX1_through_r1 : List Cond := [Cond.fieldLink RX1 18 "VoiceRows$Finder" "score" "LVoiceRows$Score;", Cond.fieldLink RX1 47 "VoiceRows$Score" "order" "[I", Cond.fieldLink RX1 22 "VoiceRows$Finder" "lines" "LVoiceRows$Lines;", Cond.fieldLink RX1 57 "VoiceRows$Lines" "last" "[I", Cond.methodLink RX1 81 yX3_added, Cond.instanceMethod yX3_added, Cond.selects RX3 yX3_added yX3_added, Cond.initialized RX3, Cond.code yX3_added cX3_added 6 (some .int), Cond.fieldLink RX3 9 "VoiceRows$Lines" "last" "[I", Cond.fieldLink RX3 19 "VoiceRows$Lines" "weights" "[I", Cond.fieldLink RX3 15 "VoiceRows$Lines" "score" "LVoiceRows$Score;", Cond.fieldLink RX3 32 "VoiceRows$Score" "from" "[I", Cond.fieldLink RX3 37 "VoiceRows$Score" "to" "[I", Cond.fieldLink RX3 40 "VoiceRows$Score" "pitch" "[I", Cond.methodLink RX3 43 Lib.Math.abs.name, Cond.static Lib.Math.abs.name, Cond.initialized "java/lang/Math", Cond.code Lib.Math.abs.name Lib.Math.abs.code 1 (some .int), Cond.methodLink RX3 28 yX3_crossed, Cond.instanceMethod yX3_crossed, Cond.selects RX3 yX3_crossed yX3_crossed, Cond.code yX3_crossed cX3_crossed 7 (some .int), Cond.methodLink RX1 53 yX1_stateBehind]
def wsX1_through_r2 : List Cond := [Cond.instanceMethod yX1_stateBehind, Cond.selects RX1 yX1_stateBehind yX1_stateBehind, Cond.initialized RX1, Cond.code yX1_stateBehind cX1_stateBehind 6 (some .int), Cond.fieldLink RX1 84 "VoiceRows$Score" "rank" "[I", Cond.fieldLink RX1 9 "VoiceRows$Finder" "place" "[I", Cond.methodLink RX1 38 yX1_onward, Cond.instanceMethod yX1_onward, Cond.selects RX1 yX1_onward yX1_onward, Cond.code yX1_onward cX1_onward 6 (some .int), Cond.fieldLink RX1 42 "VoiceRows$Score" "count" "I", Cond.fieldLink RX1 15 "VoiceRows$Finder" "known" "[I", Cond.fieldLink RX1 26 "VoiceRows$Finder" "voices" "I", Cond.methodLink RX1 78 yX1_through, Cond.instanceMethod yX1_through, Cond.selects RX1 yX1_through yX1_through]
def wsX1_through : List Cond := .code yX1_through cX1_through 9 (some .int) :: ((wsX1_through_r1 ++ wsX1_through_r2) ++ wsX10 ++ wsX60 ++ wsX30)
def wsX1_search_r1 : List Cond := [Cond.fieldLink RX1 26 "VoiceRows$Finder" "voices" "I", Cond.fieldLink RX1 22 "VoiceRows$Finder" "lines" "LVoiceRows$Lines;", Cond.methodLink RX1 30 yX1_makeStates, Cond.instanceMethod yX1_makeStates, Cond.selects RX1 yX1_makeStates yX1_makeStates, Cond.initialized RX1, Cond.code yX1_makeStates cX1_makeStates 3 none, Cond.fieldLink RX1 9 "VoiceRows$Finder" "place" "[I", Cond.fieldLink RX1 18 "VoiceRows$Finder" "score" "LVoiceRows$Score;", Cond.fieldLink RX1 42 "VoiceRows$Score" "count" "I", Cond.fieldLink RX1 15 "VoiceRows$Finder" "known" "[I", Cond.constant RX1 63 (38416), Cond.methodLink RX1 64 Lib.Math.max.name, Cond.static Lib.Math.max.name, Cond.initialized "java/lang/Math", Cond.code Lib.Math.max.name Lib.Math.max.code 2 (some .int), Cond.methodLink RX1 69 Lib.Math.min.name, Cond.static Lib.Math.min.name, Cond.code Lib.Math.min.name Lib.Math.min.code 2 (some .int), Cond.arrayClass .int, Cond.methodLink RX1 72 yJ7_fill_fda19, Cond.static yJ7_fill_fda19, Cond.initialized RJ7, Cond.code yJ7_fill_fda19 cJ7_fill_fda19 5 none]
def wsX1_search_r2 : List Cond := [Cond.methodLink RJ7 13 yJ7_rangeCheck_23922, Cond.static yJ7_rangeCheck_23922, Cond.code yJ7_rangeCheck_23922 cJ7_rangeCheck_23922 3 none, Cond.methodLink RX1 33 yX3_empty, Cond.instanceMethod yX3_empty, Cond.selects RX3 yX3_empty yX3_empty, Cond.initialized RX3, Cond.code yX3_empty cX3_empty 1 none, Cond.fieldLink RX3 9 "VoiceRows$Lines" "last" "[I", Cond.methodLink RX3 22 yJ7_fill_53178, Cond.static yJ7_fill_53178, Cond.code yJ7_fill_53178 cJ7_fill_53178 4 none, Cond.methodLink RX1 38 yX1_onward, Cond.instanceMethod yX1_onward, Cond.selects RX1 yX1_onward yX1_onward, Cond.code yX1_onward cX1_onward 6 (some .int), Cond.methodLink RX1 78 yX1_through, Cond.instanceMethod yX1_through, Cond.selects RX1 yX1_through yX1_through, Cond.code yX1_through cX1_through 9 (some .int), Cond.fieldLink RX1 47 "VoiceRows$Score" "order" "[I", Cond.fieldLink RX1 57 "VoiceRows$Lines" "last" "[I", Cond.methodLink RX1 81 yX3_added, Cond.instanceMethod yX3_added]
def wsX1_search_r3 : List Cond := [Cond.selects RX3 yX3_added yX3_added, Cond.code yX3_added cX3_added 6 (some .int), Cond.fieldLink RX3 19 "VoiceRows$Lines" "weights" "[I", Cond.fieldLink RX3 15 "VoiceRows$Lines" "score" "LVoiceRows$Score;", Cond.fieldLink RX3 32 "VoiceRows$Score" "from" "[I", Cond.fieldLink RX3 37 "VoiceRows$Score" "to" "[I", Cond.fieldLink RX3 40 "VoiceRows$Score" "pitch" "[I", Cond.methodLink RX3 43 Lib.Math.abs.name, Cond.static Lib.Math.abs.name, Cond.code Lib.Math.abs.name Lib.Math.abs.code 1 (some .int), Cond.methodLink RX3 28 yX3_crossed, Cond.instanceMethod yX3_crossed, Cond.selects RX3 yX3_crossed yX3_crossed, Cond.code yX3_crossed cX3_crossed 7 (some .int), Cond.methodLink RX1 53 yX1_stateBehind, Cond.instanceMethod yX1_stateBehind, Cond.selects RX1 yX1_stateBehind yX1_stateBehind, Cond.code yX1_stateBehind cX1_stateBehind 6 (some .int), Cond.fieldLink RX1 84 "VoiceRows$Score" "rank" "[I"]
def wsX1_search : List Cond := .code yX1_search cX1_search 2 (some .int) :: ((wsX1_search_r1 ++ (wsX1_search_r2 ++ wsX1_search_r3)) ++ wsX10 ++ wsX60 ++ wsX30)
def wsX1_firstBest_r1 : List Cond := [Cond.fieldLink RX1 26 "VoiceRows$Finder" "voices" "I", Cond.methodLink RX1 38 yX1_onward, Cond.instanceMethod yX1_onward, Cond.selects RX1 yX1_onward yX1_onward, Cond.initialized RX1, Cond.code yX1_onward cX1_onward 6 (some .int), Cond.fieldLink RX1 18 "VoiceRows$Finder" "score" "LVoiceRows$Score;", Cond.fieldLink RX1 42 "VoiceRows$Score" "count" "I", Cond.fieldLink RX1 15 "VoiceRows$Finder" "known" "[I", Cond.methodLink RX1 78 yX1_through, Cond.instanceMethod yX1_through, Cond.selects RX1 yX1_through yX1_through, Cond.code yX1_through cX1_through 9 (some .int), Cond.fieldLink RX1 47 "VoiceRows$Score" "order" "[I", Cond.fieldLink RX1 22 "VoiceRows$Finder" "lines" "LVoiceRows$Lines;", Cond.fieldLink RX1 57 "VoiceRows$Lines" "last" "[I", Cond.methodLink RX1 81 yX3_added, Cond.instanceMethod yX3_added, Cond.selects RX3 yX3_added yX3_added, Cond.initialized RX3, Cond.code yX3_added cX3_added 6 (some .int), Cond.fieldLink RX3 9 "VoiceRows$Lines" "last" "[I", Cond.fieldLink RX3 19 "VoiceRows$Lines" "weights" "[I", Cond.fieldLink RX3 15 "VoiceRows$Lines" "score" "LVoiceRows$Score;"]
def wsX1_firstBest_r2 : List Cond := [Cond.fieldLink RX3 32 "VoiceRows$Score" "from" "[I", Cond.fieldLink RX3 37 "VoiceRows$Score" "to" "[I", Cond.fieldLink RX3 40 "VoiceRows$Score" "pitch" "[I", Cond.methodLink RX3 43 Lib.Math.abs.name, Cond.static Lib.Math.abs.name, Cond.initialized "java/lang/Math", Cond.code Lib.Math.abs.name Lib.Math.abs.code 1 (some .int), Cond.methodLink RX3 28 yX3_crossed, Cond.instanceMethod yX3_crossed, Cond.selects RX3 yX3_crossed yX3_crossed, Cond.code yX3_crossed cX3_crossed 7 (some .int), Cond.methodLink RX1 53 yX1_stateBehind, Cond.instanceMethod yX1_stateBehind, Cond.selects RX1 yX1_stateBehind yX1_stateBehind, Cond.code yX1_stateBehind cX1_stateBehind 6 (some .int), Cond.fieldLink RX1 84 "VoiceRows$Score" "rank" "[I", Cond.fieldLink RX1 9 "VoiceRows$Finder" "place" "[I"]
def wsX1_firstBest : List Cond := .code yX1_firstBest cX1_firstBest 6 (some .int) :: ((wsX1_firstBest_r1 ++ wsX1_firstBest_r2) ++ wsX10 ++ wsX60 ++ wsX30)
def wsX1_giveFound_r1 : List Cond := [Cond.fieldLink RX1 22 "VoiceRows$Finder" "lines" "LVoiceRows$Lines;", Cond.fieldLink RX1 18 "VoiceRows$Finder" "score" "LVoiceRows$Score;", Cond.fieldLink RX1 42 "VoiceRows$Score" "count" "I", Cond.fieldLink RX1 47 "VoiceRows$Score" "order" "[I", Cond.fieldLink RX1 57 "VoiceRows$Lines" "last" "[I", Cond.fieldLink RX1 60 "VoiceRows$Score" "voice" "[I", Cond.methodLink RX1 33 yX3_empty, Cond.instanceMethod yX3_empty, Cond.selects RX3 yX3_empty yX3_empty, Cond.initialized RX3, Cond.code yX3_empty cX3_empty 1 none, Cond.fieldLink RX3 9 "VoiceRows$Lines" "last" "[I", Cond.methodLink RX3 22 yJ7_fill_53178, Cond.static yJ7_fill_53178, Cond.initialized RJ7, Cond.code yJ7_fill_53178 cJ7_fill_53178 4 none, Cond.methodLink RX1 50 yX1_firstBest, Cond.instanceMethod yX1_firstBest, Cond.selects RX1 yX1_firstBest yX1_firstBest, Cond.initialized RX1, Cond.code yX1_firstBest cX1_firstBest 6 (some .int), Cond.fieldLink RX1 26 "VoiceRows$Finder" "voices" "I", Cond.methodLink RX1 38 yX1_onward, Cond.instanceMethod yX1_onward]
def wsX1_giveFound_r2 : List Cond := [Cond.selects RX1 yX1_onward yX1_onward, Cond.code yX1_onward cX1_onward 6 (some .int), Cond.fieldLink RX1 15 "VoiceRows$Finder" "known" "[I", Cond.methodLink RX1 78 yX1_through, Cond.instanceMethod yX1_through, Cond.selects RX1 yX1_through yX1_through, Cond.code yX1_through cX1_through 9 (some .int), Cond.methodLink RX1 81 yX3_added, Cond.instanceMethod yX3_added, Cond.selects RX3 yX3_added yX3_added, Cond.code yX3_added cX3_added 6 (some .int), Cond.fieldLink RX3 19 "VoiceRows$Lines" "weights" "[I", Cond.fieldLink RX3 15 "VoiceRows$Lines" "score" "LVoiceRows$Score;", Cond.fieldLink RX3 32 "VoiceRows$Score" "from" "[I", Cond.fieldLink RX3 37 "VoiceRows$Score" "to" "[I", Cond.fieldLink RX3 40 "VoiceRows$Score" "pitch" "[I", Cond.methodLink RX3 43 Lib.Math.abs.name, Cond.static Lib.Math.abs.name, Cond.initialized "java/lang/Math", Cond.code Lib.Math.abs.name Lib.Math.abs.code 1 (some .int), Cond.methodLink RX3 28 yX3_crossed, Cond.instanceMethod yX3_crossed, Cond.selects RX3 yX3_crossed yX3_crossed, Cond.code yX3_crossed cX3_crossed 7 (some .int)]
def wsX1_giveFound_r3 : List Cond := [Cond.methodLink RX1 53 yX1_stateBehind, Cond.instanceMethod yX1_stateBehind, Cond.selects RX1 yX1_stateBehind yX1_stateBehind, Cond.code yX1_stateBehind cX1_stateBehind 6 (some .int), Cond.fieldLink RX1 84 "VoiceRows$Score" "rank" "[I", Cond.fieldLink RX1 9 "VoiceRows$Finder" "place" "[I"]
def wsX1_giveFound : List Cond := .code yX1_giveFound cX1_giveFound 5 none :: ((wsX1_giveFound_r1 ++ (wsX1_giveFound_r2 ++ wsX1_giveFound_r3)) ++ wsX10 ++ wsX60 ++ wsX30)
def wsX2_init : List Cond := .code yX2_init cX2_init 3 none :: ([.methodLink RX2 3 objectInit, .instanceMethod objectInit, .code objectInit ⟨#[0xb1]⟩ 1 none, .arrayClass .int, .fieldLink RX2 9 "VoiceRows$Goer" "chosen" "[I", .fieldLink RX2 15 "VoiceRows$Goer" "score" "LVoiceRows$Score;", .fieldLink RX2 19 "VoiceRows$Goer" "lines" "LVoiceRows$Lines;"] ++ wsX20)
def wsX2_cheapest : List Cond := .code yX2_cheapest cX2_cheapest 7 (some .int) :: ([.fieldLink RX2 19 "VoiceRows$Goer" "lines" "LVoiceRows$Lines;", .methodLink RX2 53 yX3_added, .instanceMethod yX3_added, .selects RX3 yX3_added yX3_added, .initialized RX3, .code yX3_added cX3_added 6 (some .int), .fieldLink RX3 9 "VoiceRows$Lines" "last" "[I", .fieldLink RX3 19 "VoiceRows$Lines" "weights" "[I", .fieldLink RX3 15 "VoiceRows$Lines" "score" "LVoiceRows$Score;", .fieldLink RX3 32 "VoiceRows$Score" "from" "[I", .fieldLink RX3 37 "VoiceRows$Score" "to" "[I", .fieldLink RX3 40 "VoiceRows$Score" "pitch" "[I", .methodLink RX3 43 Lib.Math.abs.name, .static Lib.Math.abs.name, .initialized "java/lang/Math", .code Lib.Math.abs.name Lib.Math.abs.code 1 (some .int), .methodLink RX3 28 yX3_crossed, .instanceMethod yX3_crossed, .selects RX3 yX3_crossed yX3_crossed, .code yX3_crossed cX3_crossed 7 (some .int)] ++ wsX20 ++ wsX30 ++ wsX60)
def wsX2_go_r1 : List Cond := [Cond.fieldLink RX2 19 "VoiceRows$Goer" "lines" "LVoiceRows$Lines;", Cond.fieldLink RX2 15 "VoiceRows$Goer" "score" "LVoiceRows$Score;", Cond.fieldLink RX2 28 "VoiceRows$Score" "count" "I", Cond.fieldLink RX2 34 "VoiceRows$Score" "order" "[I", Cond.fieldLink RX2 41 "VoiceRows$Lines" "last" "[I", Cond.fieldLink RX2 9 "VoiceRows$Goer" "chosen" "[I", Cond.fieldLink RX2 44 "VoiceRows$Score" "voice" "[I", Cond.methodLink RX2 47 arraycopyName, Cond.native arraycopyName, Cond.static arraycopyName, Cond.initialized "java/lang/System", Cond.methodLink RX2 23 yX3_empty, Cond.instanceMethod yX3_empty, Cond.selects RX3 yX3_empty yX3_empty, Cond.initialized RX3, Cond.code yX3_empty cX3_empty 1 none, Cond.fieldLink RX3 9 "VoiceRows$Lines" "last" "[I", Cond.methodLink RX3 22 yJ7_fill_53178, Cond.static yJ7_fill_53178, Cond.initialized RJ7, Cond.code yJ7_fill_53178 cJ7_fill_53178 4 none, Cond.methodLink RX2 37 yX2_cheapest, Cond.instanceMethod yX2_cheapest, Cond.selects RX2 yX2_cheapest yX2_cheapest]
def wsX2_go_r2 : List Cond := [Cond.initialized RX2, Cond.code yX2_cheapest cX2_cheapest 7 (some .int), Cond.methodLink RX2 53 yX3_added, Cond.instanceMethod yX3_added, Cond.selects RX3 yX3_added yX3_added, Cond.code yX3_added cX3_added 6 (some .int), Cond.fieldLink RX3 19 "VoiceRows$Lines" "weights" "[I", Cond.fieldLink RX3 15 "VoiceRows$Lines" "score" "LVoiceRows$Score;", Cond.fieldLink RX3 32 "VoiceRows$Score" "from" "[I", Cond.fieldLink RX3 37 "VoiceRows$Score" "to" "[I", Cond.fieldLink RX3 40 "VoiceRows$Score" "pitch" "[I", Cond.methodLink RX3 43 Lib.Math.abs.name, Cond.static Lib.Math.abs.name, Cond.initialized "java/lang/Math", Cond.code Lib.Math.abs.name Lib.Math.abs.code 1 (some .int), Cond.methodLink RX3 28 yX3_crossed, Cond.instanceMethod yX3_crossed, Cond.selects RX3 yX3_crossed yX3_crossed, Cond.code yX3_crossed cX3_crossed 7 (some .int)]
def wsX2_go : List Cond := .code yX2_go cX2_go 5 (some .boolean) :: ((wsX2_go_r1 ++ wsX2_go_r2) ++ wsX20 ++ wsX60 ++ wsX30)
def wsX3_init : List Cond := .code yX3_init cX3_init 3 none :: ([.methodLink RX3 3 objectInit, .instanceMethod objectInit, .code objectInit ⟨#[0xb1]⟩ 1 none, .arrayClass .int, .fieldLink RX3 9 "VoiceRows$Lines" "last" "[I", .fieldLink RX3 15 "VoiceRows$Lines" "score" "LVoiceRows$Score;", .fieldLink RX3 19 "VoiceRows$Lines" "weights" "[I"] ++ wsX30)
def wsX4_init : List Cond := .code yX4_init cX4_init 2 none :: ([.methodLink RX4 3 objectInit, .instanceMethod objectInit, .code objectInit ⟨#[0xb1]⟩ 1 none, .fieldLink RX4 9 "VoiceRows$PairRows" "score" "LVoiceRows$Score;"] ++ wsX40)
def wsX5_init : List Cond := .code yX5_init cX5_init 2 none :: ([.methodLink RX5 3 objectInit, .instanceMethod objectInit, .code objectInit ⟨#[0xb1]⟩ 1 none, .arrayClass .int, .fieldLink RX5 9 "VoiceRows$RestRows" "begin" "[I", .fieldLink RX5 15 "VoiceRows$RestRows" "end" "[I", .fieldLink RX5 18 "VoiceRows$RestRows" "score" "LVoiceRows$Score;"] ++ wsX50)
def wsX5_breaksRest : List Cond := .code yX5_breaksRest cX5_breaksRest 3 (some .boolean) :: ([.fieldLink RX5 18 "VoiceRows$RestRows" "score" "LVoiceRows$Score;", .fieldLink RX5 56 "VoiceRows$Score" "voice" "[I"] ++ wsX50 ++ wsX60)
def wsX5_keep : List Cond := .code yX5_keep cX5_keep 3 none :: ([.fieldLink RX5 22 "VoiceRows$RestRows" "count" "I", .fieldLink RX5 9 "VoiceRows$RestRows" "begin" "[I", .fieldLink RX5 15 "VoiceRows$RestRows" "end" "[I"] ++ wsX50)
def wsX6_theEnd : List Cond := .code yX6_theEnd cX6_theEnd 3 (some .int) :: ([.fieldLink RX6 30 "VoiceRows$Score" "count" "I", .fieldLink RX6 15 "VoiceRows$Score" "to" "[I", .methodLink RX6 59 Lib.Math.max.name, .static Lib.Math.max.name, .initialized "java/lang/Math", .code Lib.Math.max.name Lib.Math.max.code 2 (some .int)] ++ wsX60)
def wsX5_collect_r1 : List Cond := [Cond.fieldLink RX5 22 "VoiceRows$RestRows" "count" "I", Cond.fieldLink RX5 18 "VoiceRows$RestRows" "score" "LVoiceRows$Score;", Cond.fieldLink RX5 26 "VoiceRows$Score" "count" "I", Cond.fieldLink RX5 29 "VoiceRows$Score" "order" "[I", Cond.fieldLink RX5 36 "VoiceRows$Score" "from" "[I", Cond.fieldLink RX5 43 "VoiceRows$Score" "to" "[I", Cond.methodLink RX5 46 Lib.Math.max.name, Cond.static Lib.Math.max.name, Cond.initialized "java/lang/Math", Cond.code Lib.Math.max.name Lib.Math.max.code 2 (some .int), Cond.methodLink RX5 32 yX5_breaksRest, Cond.instanceMethod yX5_breaksRest, Cond.selects RX5 yX5_breaksRest yX5_breaksRest, Cond.initialized RX5, Cond.code yX5_breaksRest cX5_breaksRest 3 (some .boolean), Cond.fieldLink RX5 56 "VoiceRows$Score" "voice" "[I", Cond.methodLink RX5 39 yX5_keep, Cond.instanceMethod yX5_keep, Cond.selects RX5 yX5_keep yX5_keep, Cond.code yX5_keep cX5_keep 3 none, Cond.fieldLink RX5 9 "VoiceRows$RestRows" "begin" "[I", Cond.fieldLink RX5 15 "VoiceRows$RestRows" "end" "[I", Cond.methodLink RX5 52 yX6_theEnd, Cond.instanceMethod yX6_theEnd]
def wsX5_collect_r2 : List Cond := [Cond.selects RX6 yX6_theEnd yX6_theEnd, Cond.initialized RX6, Cond.code yX6_theEnd cX6_theEnd 3 (some .int), Cond.fieldLink RX6 30 "VoiceRows$Score" "count" "I", Cond.fieldLink RX6 15 "VoiceRows$Score" "to" "[I", Cond.methodLink RX6 59 Lib.Math.max.name]
def wsX5_collect : List Cond := .code yX5_collect cX5_collect 5 none :: ((wsX5_collect_r1 ++ wsX5_collect_r2) ++ wsX50 ++ wsX60)
def wsX6_init : List Cond := .code yX6_init cX6_init 1 none :: ([.methodLink RX6 3 objectInit, .instanceMethod objectInit, .code objectInit ⟨#[0xb1]⟩ 1 none, .arrayClass .int, .fieldLink RX6 9 "VoiceRows$Score" "from" "[I", .fieldLink RX6 15 "VoiceRows$Score" "to" "[I", .fieldLink RX6 18 "VoiceRows$Score" "pitch" "[I", .fieldLink RX6 21 "VoiceRows$Score" "voice" "[I", .fieldLink RX6 24 "VoiceRows$Score" "order" "[I", .fieldLink RX6 27 "VoiceRows$Score" "rank" "[I"] ++ wsX60)
def wsX7_within : List Cond := .code yX7_within cX7_within 3 (some .boolean) :: ([])
def wsX6_has : List Cond := .code yX6_has cX6_has 2 (some .boolean) :: ([.fieldLink RX6 30 "VoiceRows$Score" "count" "I", .static yX7_within, .initialized RX7, .code yX7_within cX7_within 3 (some .boolean)] ++ wsX60)
def wsX6_isBefore : List Cond := .code yX6_isBefore cX6_isBefore 3 (some .boolean) :: ([.fieldLink RX6 9 "VoiceRows$Score" "from" "[I", .fieldLink RX6 18 "VoiceRows$Score" "pitch" "[I"] ++ wsX60)
def wsX6_sortOrder : List Cond := .code yX6_sortOrder cX6_sortOrder 4 none :: ([.fieldLink RX6 30 "VoiceRows$Score" "count" "I", .fieldLink RX6 24 "VoiceRows$Score" "order" "[I", .fieldLink RX6 27 "VoiceRows$Score" "rank" "[I", .methodLink RX6 45 yX6_isBefore, .instanceMethod yX6_isBefore, .selects RX6 yX6_isBefore yX6_isBefore, .initialized RX6, .code yX6_isBefore cX6_isBefore 3 (some .boolean), .fieldLink RX6 9 "VoiceRows$Score" "from" "[I", .fieldLink RX6 18 "VoiceRows$Score" "pitch" "[I"] ++ wsX60)
def wsX6_change : List Cond := .code yX6_change cX6_change 5 none :: ([.fieldLink RX6 9 "VoiceRows$Score" "from" "[I", .fieldLink RX6 15 "VoiceRows$Score" "to" "[I", .fieldLink RX6 18 "VoiceRows$Score" "pitch" "[I", .methodLink RX6 42 yX6_sortOrder, .instanceMethod yX6_sortOrder, .selects RX6 yX6_sortOrder yX6_sortOrder, .initialized RX6, .code yX6_sortOrder cX6_sortOrder 4 none, .fieldLink RX6 30 "VoiceRows$Score" "count" "I", .fieldLink RX6 24 "VoiceRows$Score" "order" "[I", .fieldLink RX6 27 "VoiceRows$Score" "rank" "[I", .methodLink RX6 45 yX6_isBefore, .instanceMethod yX6_isBefore, .selects RX6 yX6_isBefore yX6_isBefore, .code yX6_isBefore cX6_isBefore 3 (some .boolean)] ++ wsX60)
def wsX6_add : List Cond := .code yX6_add cX6_add 5 (some .int) :: ([.fieldLink RX6 30 "VoiceRows$Score" "count" "I", .fieldLink RX6 21 "VoiceRows$Score" "voice" "[I", .fieldLink RX6 24 "VoiceRows$Score" "order" "[I", .methodLink RX6 38 yX6_change, .instanceMethod yX6_change, .selects RX6 yX6_change yX6_change, .initialized RX6, .code yX6_change cX6_change 5 none, .fieldLink RX6 9 "VoiceRows$Score" "from" "[I", .fieldLink RX6 15 "VoiceRows$Score" "to" "[I", .fieldLink RX6 18 "VoiceRows$Score" "pitch" "[I", .methodLink RX6 42 yX6_sortOrder, .instanceMethod yX6_sortOrder, .selects RX6 yX6_sortOrder yX6_sortOrder, .code yX6_sortOrder cX6_sortOrder 4 none, .fieldLink RX6 27 "VoiceRows$Score" "rank" "[I", .methodLink RX6 45 yX6_isBefore, .instanceMethod yX6_isBefore, .selects RX6 yX6_isBefore yX6_isBefore, .code yX6_isBefore cX6_isBefore 3 (some .boolean)] ++ wsX60)
def wsX6_clashes : List Cond := .code yX6_clashes cX6_clashes 4 (some .int) :: ([.fieldLink RX6 30 "VoiceRows$Score" "count" "I", .fieldLink RX6 21 "VoiceRows$Score" "voice" "[I", .methodLink RX6 49 yX6_together, .instanceMethod yX6_together, .selects RX6 yX6_together yX6_together, .initialized RX6, .code yX6_together cX6_together 3 (some .boolean), .fieldLink RX6 9 "VoiceRows$Score" "from" "[I", .fieldLink RX6 15 "VoiceRows$Score" "to" "[I"] ++ wsX60)
def wsX6_isWhole : List Cond := .code yX6_isWhole cX6_isWhole 3 (some .boolean) :: ([.fieldLink RX6 30 "VoiceRows$Score" "count" "I", .fieldLink RX6 21 "VoiceRows$Score" "voice" "[I", .methodLink RX6 52 yX6_following, .instanceMethod yX6_following, .selects RX6 yX6_following yX6_following, .initialized RX6, .code yX6_following cX6_following 3 (some .int), .fieldLink RX6 27 "VoiceRows$Score" "rank" "[I", .fieldLink RX6 24 "VoiceRows$Score" "order" "[I", .methodLink RX6 49 yX6_together, .instanceMethod yX6_together, .selects RX6 yX6_together yX6_together, .code yX6_together cX6_together 3 (some .boolean), .fieldLink RX6 9 "VoiceRows$Score" "from" "[I", .fieldLink RX6 15 "VoiceRows$Score" "to" "[I"] ++ wsX60)
def wsX6_soundingAt : List Cond := .code yX6_soundingAt cX6_soundingAt 4 (some .int) :: ([.fieldLink RX6 30 "VoiceRows$Score" "count" "I", .fieldLink RX6 9 "VoiceRows$Score" "from" "[I", .fieldLink RX6 15 "VoiceRows$Score" "to" "[I"] ++ wsX60)
def wsX6_thickest : List Cond := .code yX6_thickest cX6_thickest 3 (some .int) :: ([.fieldLink RX6 30 "VoiceRows$Score" "count" "I", .fieldLink RX6 9 "VoiceRows$Score" "from" "[I", .methodLink RX6 59 Lib.Math.max.name, .static Lib.Math.max.name, .initialized "java/lang/Math", .code Lib.Math.max.name Lib.Math.max.code 2 (some .int), .methodLink RX6 56 yX6_soundingAt, .instanceMethod yX6_soundingAt, .selects RX6 yX6_soundingAt yX6_soundingAt, .initialized RX6, .code yX6_soundingAt cX6_soundingAt 4 (some .int), .fieldLink RX6 15 "VoiceRows$Score" "to" "[I"] ++ wsX60)
def wsX6_lowestIn : List Cond := .code yX6_lowestIn cX6_lowestIn 4 (some .int) :: ([.fieldLink RX6 30 "VoiceRows$Score" "count" "I", .fieldLink RX6 21 "VoiceRows$Score" "voice" "[I", .fieldLink RX6 18 "VoiceRows$Score" "pitch" "[I"] ++ wsX60)
def wsX6_highestIn : List Cond := .code yX6_highestIn cX6_highestIn 4 (some .int) :: ([.fieldLink RX6 30 "VoiceRows$Score" "count" "I", .fieldLink RX6 21 "VoiceRows$Score" "voice" "[I", .fieldLink RX6 18 "VoiceRows$Score" "pitch" "[I", .methodLink RX6 59 Lib.Math.max.name, .static Lib.Math.max.name, .initialized "java/lang/Math", .code Lib.Math.max.name Lib.Math.max.code 2 (some .int)] ++ wsX60)
def wsX7_init_r1 : List Cond := [Cond.methodLink RX7 1 objectInit, Cond.instanceMethod objectInit, Cond.code objectInit ⟨#[0xb1]⟩ 1 none, Cond.classLink RX7 7 RX6, Cond.instantiable RX6 7, Cond.initialized RX6, Cond.fieldLink RX7 10 "VoiceRows" "score" "LVoiceRows$Score;", Cond.fieldLink RX7 16 "VoiceRows" "FIRST_WEIGHTS" "[I", Cond.methodLink RX7 20 ⟨"[I", "clone", "()Ljava/lang/Object;"⟩, Cond.sameMethod "[I" "java/lang/Object" "clone" "()Ljava/lang/Object;", Cond.native ⟨"java/lang/Object", "clone", "()Ljava/lang/Object;"⟩, Cond.instanceMethod ⟨"java/lang/Object", "clone", "()Ljava/lang/Object;"⟩, Cond.selects "[I" ⟨"[I", "clone", "()Ljava/lang/Object;"⟩ ⟨"java/lang/Object", "clone", "()Ljava/lang/Object;"⟩, Cond.classLink RX7 21 "[I", Cond.fieldLink RX7 25 "VoiceRows" "weights" "[I", Cond.classLink RX7 28 RX5, Cond.instantiable RX5 4, Cond.initialized RX5, Cond.fieldLink RX7 33 "VoiceRows" "restRows" "LVoiceRows$RestRows;", Cond.classLink RX7 37 RX4, Cond.instantiable RX4 3, Cond.initialized RX4, Cond.fieldLink RX7 40 "VoiceRows" "pairRows" "LVoiceRows$PairRows;", Cond.classLink RX7 44 RX0]
def wsX7_init_r2 : List Cond := [Cond.instantiable RX0 3, Cond.initialized RX0, Cond.fieldLink RX7 49 "VoiceRows" "bill" "LVoiceRows$Bill;", Cond.classLink RX7 53 RX3, Cond.instantiable RX3 3, Cond.initialized RX3, Cond.classLink RX7 58 RX1, Cond.instantiable RX1 5, Cond.initialized RX1, Cond.fieldLink RX7 63 "VoiceRows" "finder" "LVoiceRows$Finder;", Cond.classLink RX7 67 RX2, Cond.instantiable RX2 3, Cond.initialized RX2, Cond.fieldLink RX7 70 "VoiceRows" "goer" "LVoiceRows$Goer;", Cond.instanceMethod yX6_init, Cond.code yX6_init cX6_init 1 none, Cond.methodLink RX6 3 objectInit, Cond.arrayClass .int, Cond.fieldLink RX6 9 "VoiceRows$Score" "from" "[I", Cond.fieldLink RX6 15 "VoiceRows$Score" "to" "[I", Cond.fieldLink RX6 18 "VoiceRows$Score" "pitch" "[I", Cond.fieldLink RX6 21 "VoiceRows$Score" "voice" "[I", Cond.fieldLink RX6 24 "VoiceRows$Score" "order" "[I", Cond.fieldLink RX6 27 "VoiceRows$Score" "rank" "[I"]
def wsX7_init_r3 : List Cond := [Cond.methodLink RX7 30 yX5_init, Cond.instanceMethod yX5_init, Cond.code yX5_init cX5_init 2 none, Cond.methodLink RX5 3 objectInit, Cond.fieldLink RX5 9 "VoiceRows$RestRows" "begin" "[I", Cond.fieldLink RX5 15 "VoiceRows$RestRows" "end" "[I", Cond.fieldLink RX5 18 "VoiceRows$RestRows" "score" "LVoiceRows$Score;", Cond.methodLink RX7 39 yX4_init, Cond.instanceMethod yX4_init, Cond.code yX4_init cX4_init 2 none, Cond.methodLink RX4 3 objectInit, Cond.fieldLink RX4 9 "VoiceRows$PairRows" "score" "LVoiceRows$Score;", Cond.methodLink RX7 46 yX0_init, Cond.instanceMethod yX0_init, Cond.code yX0_init cX0_init 4 none, Cond.methodLink RX0 3 objectInit, Cond.fieldLink RX0 9 "VoiceRows$Bill" "score" "LVoiceRows$Score;", Cond.fieldLink RX0 15 "VoiceRows$Bill" "weights" "[I", Cond.fieldLink RX0 19 "VoiceRows$Bill" "pairRows" "LVoiceRows$PairRows;", Cond.methodLink RX7 55 yX3_init, Cond.instanceMethod yX3_init, Cond.code yX3_init cX3_init 3 none, Cond.methodLink RX3 3 objectInit, Cond.fieldLink RX3 9 "VoiceRows$Lines" "last" "[I"]
def wsX7_init_r4 : List Cond := [Cond.fieldLink RX3 15 "VoiceRows$Lines" "score" "LVoiceRows$Score;", Cond.fieldLink RX3 19 "VoiceRows$Lines" "weights" "[I", Cond.methodLink RX7 60 yX1_init, Cond.instanceMethod yX1_init, Cond.code yX1_init cX1_init 3 none, Cond.methodLink RX1 3 objectInit, Cond.fieldLink RX1 9 "VoiceRows$Finder" "place" "[I", Cond.fieldLink RX1 15 "VoiceRows$Finder" "known" "[I", Cond.fieldLink RX1 18 "VoiceRows$Finder" "score" "LVoiceRows$Score;", Cond.fieldLink RX1 22 "VoiceRows$Finder" "lines" "LVoiceRows$Lines;", Cond.methodLink RX7 69 yX2_init, Cond.instanceMethod yX2_init, Cond.code yX2_init cX2_init 3 none, Cond.methodLink RX2 3 objectInit, Cond.fieldLink RX2 9 "VoiceRows$Goer" "chosen" "[I", Cond.fieldLink RX2 15 "VoiceRows$Goer" "score" "LVoiceRows$Score;", Cond.fieldLink RX2 19 "VoiceRows$Goer" "lines" "LVoiceRows$Lines;"]
def wsX7_init : List Cond := .code yX7_init cX7_init 2 none :: ((wsX7_init_r1 ++ (wsX7_init_r2 ++ (wsX7_init_r3 ++ wsX7_init_r4))) ++ wsX60 ++ wsX70 ++ wsX50 ++ wsX40 ++ wsX00 ++ wsX30 ++ wsX10 ++ wsX20)
def wsX7_clear : List Cond := .code yX7_clear cX7_clear 2 (some .int) :: ([.fieldLink RX7 10 "VoiceRows" "score" "LVoiceRows$Score;", .fieldLink RX7 74 "VoiceRows$Score" "count" "I", .fieldLink RX7 16 "VoiceRows" "FIRST_WEIGHTS" "[I", .fieldLink RX7 25 "VoiceRows" "weights" "[I", .methodLink RX7 78 arraycopyName, .native arraycopyName, .static arraycopyName, .initialized "java/lang/System"] ++ wsX70 ++ wsX60)
def wsX7_canSound : List Cond := .code yX7_canSound cX7_canSound 3 (some .boolean) :: ([.constant RX7 147 (100000), .methodLink RX7 100 yX7_within, .static yX7_within, .initialized RX7, .code yX7_within cX7_within 3 (some .boolean)])
def wsX7_note_r1 : List Cond := [Cond.fieldLink RX7 10 "VoiceRows" "score" "LVoiceRows$Score;", Cond.fieldLink RX7 74 "VoiceRows$Score" "count" "I", Cond.methodLink RX7 84 yX7_canSound, Cond.static yX7_canSound, Cond.initialized RX7, Cond.code yX7_canSound cX7_canSound 3 (some .boolean), Cond.constant RX7 147 (100000), Cond.methodLink RX7 100 yX7_within, Cond.static yX7_within, Cond.code yX7_within cX7_within 3 (some .boolean), Cond.methodLink RX7 88 yX6_add, Cond.instanceMethod yX6_add, Cond.selects RX6 yX6_add yX6_add, Cond.initialized RX6, Cond.code yX6_add cX6_add 5 (some .int), Cond.fieldLink RX6 30 "VoiceRows$Score" "count" "I", Cond.fieldLink RX6 21 "VoiceRows$Score" "voice" "[I", Cond.fieldLink RX6 24 "VoiceRows$Score" "order" "[I", Cond.methodLink RX6 38 yX6_change, Cond.instanceMethod yX6_change, Cond.selects RX6 yX6_change yX6_change, Cond.code yX6_change cX6_change 5 none, Cond.fieldLink RX6 9 "VoiceRows$Score" "from" "[I", Cond.fieldLink RX6 15 "VoiceRows$Score" "to" "[I"]
def wsX7_note_r2 : List Cond := [Cond.fieldLink RX6 18 "VoiceRows$Score" "pitch" "[I", Cond.methodLink RX6 42 yX6_sortOrder, Cond.instanceMethod yX6_sortOrder, Cond.selects RX6 yX6_sortOrder yX6_sortOrder, Cond.code yX6_sortOrder cX6_sortOrder 4 none, Cond.fieldLink RX6 27 "VoiceRows$Score" "rank" "[I", Cond.methodLink RX6 45 yX6_isBefore, Cond.instanceMethod yX6_isBefore, Cond.selects RX6 yX6_isBefore yX6_isBefore, Cond.code yX6_isBefore cX6_isBefore 3 (some .boolean)]
def wsX7_note : List Cond := .code yX7_note cX7_note 4 (some .int) :: ((wsX7_note_r1 ++ wsX7_note_r2) ++ wsX70 ++ wsX60)
def wsX7_move_r1 : List Cond := [Cond.fieldLink RX7 10 "VoiceRows" "score" "LVoiceRows$Score;", Cond.methodLink RX7 92 yX6_has, Cond.instanceMethod yX6_has, Cond.selects RX6 yX6_has yX6_has, Cond.initialized RX6, Cond.code yX6_has cX6_has 2 (some .boolean), Cond.fieldLink RX6 30 "VoiceRows$Score" "count" "I", Cond.static yX7_within, Cond.initialized RX7, Cond.code yX7_within cX7_within 3 (some .boolean), Cond.methodLink RX7 84 yX7_canSound, Cond.static yX7_canSound, Cond.code yX7_canSound cX7_canSound 3 (some .boolean), Cond.constant RX7 147 (100000), Cond.methodLink RX7 100 yX7_within, Cond.methodLink RX7 96 yX6_change, Cond.instanceMethod yX6_change, Cond.selects RX6 yX6_change yX6_change, Cond.code yX6_change cX6_change 5 none, Cond.fieldLink RX6 9 "VoiceRows$Score" "from" "[I", Cond.fieldLink RX6 15 "VoiceRows$Score" "to" "[I", Cond.fieldLink RX6 18 "VoiceRows$Score" "pitch" "[I", Cond.methodLink RX6 42 yX6_sortOrder, Cond.instanceMethod yX6_sortOrder]
def wsX7_move_r2 : List Cond := [Cond.selects RX6 yX6_sortOrder yX6_sortOrder, Cond.code yX6_sortOrder cX6_sortOrder 4 none, Cond.fieldLink RX6 24 "VoiceRows$Score" "order" "[I", Cond.fieldLink RX6 27 "VoiceRows$Score" "rank" "[I", Cond.methodLink RX6 45 yX6_isBefore, Cond.instanceMethod yX6_isBefore, Cond.selects RX6 yX6_isBefore yX6_isBefore, Cond.code yX6_isBefore cX6_isBefore 3 (some .boolean)]
def wsX7_move : List Cond := .code yX7_move cX7_move 5 (some .int) :: ((wsX7_move_r1 ++ wsX7_move_r2) ++ wsX70 ++ wsX60)
def wsX7_weigh : List Cond := .code yX7_weigh cX7_weigh 4 (some .int) :: ([.fieldLink RX7 25 "VoiceRows" "weights" "[I", .methodLink RX7 100 yX7_within, .static yX7_within, .initialized RX7, .code yX7_within cX7_within 3 (some .boolean)] ++ wsX70)
def wsX7_put : List Cond := .code yX7_put cX7_put 4 (some .int) :: ([.fieldLink RX7 10 "VoiceRows" "score" "LVoiceRows$Score;", .fieldLink RX7 103 "VoiceRows$Score" "voice" "[I", .methodLink RX7 92 yX6_has, .instanceMethod yX6_has, .selects RX6 yX6_has yX6_has, .initialized RX6, .code yX6_has cX6_has 2 (some .boolean), .fieldLink RX6 30 "VoiceRows$Score" "count" "I", .static yX7_within, .initialized RX7, .code yX7_within cX7_within 3 (some .boolean), .methodLink RX7 100 yX7_within] ++ wsX70 ++ wsX60)
def wsX7_least_r1 : List Cond := [Cond.fieldLink RX7 10 "VoiceRows" "score" "LVoiceRows$Score;", Cond.fieldLink RX7 74 "VoiceRows$Score" "count" "I", Cond.fieldLink RX7 63 "VoiceRows" "finder" "LVoiceRows$Finder;", Cond.methodLink RX7 100 yX7_within, Cond.static yX7_within, Cond.initialized RX7, Cond.code yX7_within cX7_within 3 (some .boolean), Cond.methodLink RX7 113 yX1_search, Cond.instanceMethod yX1_search, Cond.selects RX1 yX1_search yX1_search, Cond.initialized RX1, Cond.code yX1_search cX1_search 2 (some .int), Cond.fieldLink RX1 26 "VoiceRows$Finder" "voices" "I", Cond.fieldLink RX1 22 "VoiceRows$Finder" "lines" "LVoiceRows$Lines;", Cond.methodLink RX1 30 yX1_makeStates, Cond.instanceMethod yX1_makeStates, Cond.selects RX1 yX1_makeStates yX1_makeStates, Cond.code yX1_makeStates cX1_makeStates 3 none, Cond.fieldLink RX1 9 "VoiceRows$Finder" "place" "[I", Cond.fieldLink RX1 18 "VoiceRows$Finder" "score" "LVoiceRows$Score;", Cond.fieldLink RX1 42 "VoiceRows$Score" "count" "I", Cond.fieldLink RX1 15 "VoiceRows$Finder" "known" "[I", Cond.constant RX1 63 (38416), Cond.methodLink RX1 64 Lib.Math.max.name]
def wsX7_least_r2 : List Cond := [Cond.static Lib.Math.max.name, Cond.initialized "java/lang/Math", Cond.code Lib.Math.max.name Lib.Math.max.code 2 (some .int), Cond.methodLink RX1 69 Lib.Math.min.name, Cond.static Lib.Math.min.name, Cond.code Lib.Math.min.name Lib.Math.min.code 2 (some .int), Cond.arrayClass .int, Cond.methodLink RX1 72 yJ7_fill_fda19, Cond.static yJ7_fill_fda19, Cond.initialized RJ7, Cond.code yJ7_fill_fda19 cJ7_fill_fda19 5 none, Cond.methodLink RJ7 13 yJ7_rangeCheck_23922, Cond.static yJ7_rangeCheck_23922, Cond.code yJ7_rangeCheck_23922 cJ7_rangeCheck_23922 3 none, Cond.methodLink RX1 33 yX3_empty, Cond.instanceMethod yX3_empty, Cond.selects RX3 yX3_empty yX3_empty, Cond.initialized RX3, Cond.code yX3_empty cX3_empty 1 none, Cond.fieldLink RX3 9 "VoiceRows$Lines" "last" "[I", Cond.methodLink RX3 22 yJ7_fill_53178, Cond.static yJ7_fill_53178, Cond.code yJ7_fill_53178 cJ7_fill_53178 4 none, Cond.methodLink RX1 38 yX1_onward]
def wsX7_least_r3 : List Cond := [Cond.instanceMethod yX1_onward, Cond.selects RX1 yX1_onward yX1_onward, Cond.code yX1_onward cX1_onward 6 (some .int), Cond.methodLink RX1 78 yX1_through, Cond.instanceMethod yX1_through, Cond.selects RX1 yX1_through yX1_through, Cond.code yX1_through cX1_through 9 (some .int), Cond.fieldLink RX1 47 "VoiceRows$Score" "order" "[I", Cond.fieldLink RX1 57 "VoiceRows$Lines" "last" "[I", Cond.methodLink RX1 81 yX3_added, Cond.instanceMethod yX3_added, Cond.selects RX3 yX3_added yX3_added, Cond.code yX3_added cX3_added 6 (some .int), Cond.fieldLink RX3 19 "VoiceRows$Lines" "weights" "[I", Cond.fieldLink RX3 15 "VoiceRows$Lines" "score" "LVoiceRows$Score;", Cond.fieldLink RX3 32 "VoiceRows$Score" "from" "[I", Cond.fieldLink RX3 37 "VoiceRows$Score" "to" "[I", Cond.fieldLink RX3 40 "VoiceRows$Score" "pitch" "[I", Cond.methodLink RX3 43 Lib.Math.abs.name, Cond.static Lib.Math.abs.name, Cond.code Lib.Math.abs.name Lib.Math.abs.code 1 (some .int), Cond.methodLink RX3 28 yX3_crossed, Cond.instanceMethod yX3_crossed, Cond.selects RX3 yX3_crossed yX3_crossed]
def wsX7_least_r4 : List Cond := [Cond.code yX3_crossed cX3_crossed 7 (some .int), Cond.methodLink RX1 53 yX1_stateBehind, Cond.instanceMethod yX1_stateBehind, Cond.selects RX1 yX1_stateBehind yX1_stateBehind, Cond.code yX1_stateBehind cX1_stateBehind 6 (some .int), Cond.fieldLink RX1 84 "VoiceRows$Score" "rank" "[I"]
def wsX7_least : List Cond := .code yX7_least cX7_least 2 (some .int) :: ((wsX7_least_r1 ++ (wsX7_least_r2 ++ (wsX7_least_r3 ++ wsX7_least_r4))) ++ wsX70 ++ wsX60 ++ wsX10 ++ wsX30)
def wsX7_find_r1 : List Cond := [Cond.fieldLink RX7 63 "VoiceRows" "finder" "LVoiceRows$Finder;", Cond.methodLink RX7 106 yX7_least, Cond.instanceMethod yX7_least, Cond.selects RX7 yX7_least yX7_least, Cond.initialized RX7, Cond.code yX7_least cX7_least 2 (some .int), Cond.fieldLink RX7 10 "VoiceRows" "score" "LVoiceRows$Score;", Cond.fieldLink RX7 74 "VoiceRows$Score" "count" "I", Cond.methodLink RX7 100 yX7_within, Cond.static yX7_within, Cond.code yX7_within cX7_within 3 (some .boolean), Cond.methodLink RX7 113 yX1_search, Cond.instanceMethod yX1_search, Cond.selects RX1 yX1_search yX1_search, Cond.initialized RX1, Cond.code yX1_search cX1_search 2 (some .int), Cond.fieldLink RX1 26 "VoiceRows$Finder" "voices" "I", Cond.fieldLink RX1 22 "VoiceRows$Finder" "lines" "LVoiceRows$Lines;", Cond.methodLink RX1 30 yX1_makeStates, Cond.instanceMethod yX1_makeStates, Cond.selects RX1 yX1_makeStates yX1_makeStates, Cond.code yX1_makeStates cX1_makeStates 3 none, Cond.fieldLink RX1 9 "VoiceRows$Finder" "place" "[I", Cond.fieldLink RX1 18 "VoiceRows$Finder" "score" "LVoiceRows$Score;"]
def wsX7_find_r2 : List Cond := [Cond.fieldLink RX1 42 "VoiceRows$Score" "count" "I", Cond.fieldLink RX1 15 "VoiceRows$Finder" "known" "[I", Cond.constant RX1 63 (38416), Cond.methodLink RX1 64 Lib.Math.max.name, Cond.static Lib.Math.max.name, Cond.initialized "java/lang/Math", Cond.code Lib.Math.max.name Lib.Math.max.code 2 (some .int), Cond.methodLink RX1 69 Lib.Math.min.name, Cond.static Lib.Math.min.name, Cond.code Lib.Math.min.name Lib.Math.min.code 2 (some .int), Cond.arrayClass .int, Cond.methodLink RX1 72 yJ7_fill_fda19, Cond.static yJ7_fill_fda19, Cond.initialized RJ7, Cond.code yJ7_fill_fda19 cJ7_fill_fda19 5 none, Cond.methodLink RJ7 13 yJ7_rangeCheck_23922, Cond.static yJ7_rangeCheck_23922, Cond.code yJ7_rangeCheck_23922 cJ7_rangeCheck_23922 3 none, Cond.methodLink RX1 33 yX3_empty, Cond.instanceMethod yX3_empty, Cond.selects RX3 yX3_empty yX3_empty, Cond.initialized RX3, Cond.code yX3_empty cX3_empty 1 none, Cond.fieldLink RX3 9 "VoiceRows$Lines" "last" "[I"]
def wsX7_find_r3 : List Cond := [Cond.methodLink RX3 22 yJ7_fill_53178, Cond.static yJ7_fill_53178, Cond.code yJ7_fill_53178 cJ7_fill_53178 4 none, Cond.methodLink RX1 38 yX1_onward, Cond.instanceMethod yX1_onward, Cond.selects RX1 yX1_onward yX1_onward, Cond.code yX1_onward cX1_onward 6 (some .int), Cond.methodLink RX1 78 yX1_through, Cond.instanceMethod yX1_through, Cond.selects RX1 yX1_through yX1_through, Cond.code yX1_through cX1_through 9 (some .int), Cond.fieldLink RX1 47 "VoiceRows$Score" "order" "[I", Cond.fieldLink RX1 57 "VoiceRows$Lines" "last" "[I", Cond.methodLink RX1 81 yX3_added, Cond.instanceMethod yX3_added, Cond.selects RX3 yX3_added yX3_added, Cond.code yX3_added cX3_added 6 (some .int), Cond.fieldLink RX3 19 "VoiceRows$Lines" "weights" "[I", Cond.fieldLink RX3 15 "VoiceRows$Lines" "score" "LVoiceRows$Score;", Cond.fieldLink RX3 32 "VoiceRows$Score" "from" "[I", Cond.fieldLink RX3 37 "VoiceRows$Score" "to" "[I", Cond.fieldLink RX3 40 "VoiceRows$Score" "pitch" "[I", Cond.methodLink RX3 43 Lib.Math.abs.name, Cond.static Lib.Math.abs.name]
def wsX7_find_r4 : List Cond := [Cond.code Lib.Math.abs.name Lib.Math.abs.code 1 (some .int), Cond.methodLink RX3 28 yX3_crossed, Cond.instanceMethod yX3_crossed, Cond.selects RX3 yX3_crossed yX3_crossed, Cond.code yX3_crossed cX3_crossed 7 (some .int), Cond.methodLink RX1 53 yX1_stateBehind, Cond.instanceMethod yX1_stateBehind, Cond.selects RX1 yX1_stateBehind yX1_stateBehind, Cond.code yX1_stateBehind cX1_stateBehind 6 (some .int), Cond.fieldLink RX1 84 "VoiceRows$Score" "rank" "[I", Cond.methodLink RX7 110 yX1_giveFound, Cond.instanceMethod yX1_giveFound, Cond.selects RX1 yX1_giveFound yX1_giveFound, Cond.code yX1_giveFound cX1_giveFound 5 none, Cond.fieldLink RX1 60 "VoiceRows$Score" "voice" "[I", Cond.methodLink RX1 50 yX1_firstBest, Cond.instanceMethod yX1_firstBest, Cond.selects RX1 yX1_firstBest yX1_firstBest, Cond.code yX1_firstBest cX1_firstBest 6 (some .int)]
def wsX7_find : List Cond := .code yX7_find cX7_find 3 (some .int) :: ((wsX7_find_r1 ++ (wsX7_find_r2 ++ (wsX7_find_r3 ++ wsX7_find_r4))) ++ wsX70 ++ wsX60 ++ wsX10 ++ wsX30)
def wsX7_along_r1 : List Cond := [Cond.fieldLink RX7 70 "VoiceRows" "goer" "LVoiceRows$Goer;", Cond.methodLink RX7 100 yX7_within, Cond.static yX7_within, Cond.initialized RX7, Cond.code yX7_within cX7_within 3 (some .boolean), Cond.methodLink RX7 116 yX2_go, Cond.instanceMethod yX2_go, Cond.selects RX2 yX2_go yX2_go, Cond.initialized RX2, Cond.code yX2_go cX2_go 5 (some .boolean), Cond.fieldLink RX2 19 "VoiceRows$Goer" "lines" "LVoiceRows$Lines;", Cond.fieldLink RX2 15 "VoiceRows$Goer" "score" "LVoiceRows$Score;", Cond.fieldLink RX2 28 "VoiceRows$Score" "count" "I", Cond.fieldLink RX2 34 "VoiceRows$Score" "order" "[I", Cond.fieldLink RX2 41 "VoiceRows$Lines" "last" "[I", Cond.fieldLink RX2 9 "VoiceRows$Goer" "chosen" "[I", Cond.fieldLink RX2 44 "VoiceRows$Score" "voice" "[I", Cond.methodLink RX2 47 arraycopyName, Cond.native arraycopyName, Cond.static arraycopyName, Cond.initialized "java/lang/System", Cond.methodLink RX2 23 yX3_empty, Cond.instanceMethod yX3_empty, Cond.selects RX3 yX3_empty yX3_empty]
def wsX7_along_r2 : List Cond := [Cond.initialized RX3, Cond.code yX3_empty cX3_empty 1 none, Cond.fieldLink RX3 9 "VoiceRows$Lines" "last" "[I", Cond.methodLink RX3 22 yJ7_fill_53178, Cond.static yJ7_fill_53178, Cond.initialized RJ7, Cond.code yJ7_fill_53178 cJ7_fill_53178 4 none, Cond.methodLink RX2 37 yX2_cheapest, Cond.instanceMethod yX2_cheapest, Cond.selects RX2 yX2_cheapest yX2_cheapest, Cond.code yX2_cheapest cX2_cheapest 7 (some .int), Cond.methodLink RX2 53 yX3_added, Cond.instanceMethod yX3_added, Cond.selects RX3 yX3_added yX3_added, Cond.code yX3_added cX3_added 6 (some .int), Cond.fieldLink RX3 19 "VoiceRows$Lines" "weights" "[I", Cond.fieldLink RX3 15 "VoiceRows$Lines" "score" "LVoiceRows$Score;", Cond.fieldLink RX3 32 "VoiceRows$Score" "from" "[I", Cond.fieldLink RX3 37 "VoiceRows$Score" "to" "[I", Cond.fieldLink RX3 40 "VoiceRows$Score" "pitch" "[I", Cond.methodLink RX3 43 Lib.Math.abs.name, Cond.static Lib.Math.abs.name, Cond.initialized "java/lang/Math", Cond.code Lib.Math.abs.name Lib.Math.abs.code 1 (some .int)]
def wsX7_along_r3 : List Cond := [Cond.methodLink RX3 28 yX3_crossed, Cond.instanceMethod yX3_crossed, Cond.selects RX3 yX3_crossed yX3_crossed, Cond.code yX3_crossed cX3_crossed 7 (some .int)]
def wsX7_along : List Cond := .code yX7_along cX7_along 2 (some .int) :: ((wsX7_along_r1 ++ (wsX7_along_r2 ++ wsX7_along_r3)) ++ wsX70 ++ wsX20 ++ wsX60 ++ wsX30)
def wsX7_cost_r1 : List Cond := [Cond.fieldLink RX7 10 "VoiceRows" "score" "LVoiceRows$Score;", Cond.fieldLink RX7 49 "VoiceRows" "bill" "LVoiceRows$Bill;", Cond.methodLink RX7 100 yX7_within, Cond.static yX7_within, Cond.initialized RX7, Cond.code yX7_within cX7_within 3 (some .boolean), Cond.methodLink RX7 119 yX6_isWhole, Cond.instanceMethod yX6_isWhole, Cond.selects RX6 yX6_isWhole yX6_isWhole, Cond.initialized RX6, Cond.code yX6_isWhole cX6_isWhole 3 (some .boolean), Cond.fieldLink RX6 30 "VoiceRows$Score" "count" "I", Cond.fieldLink RX6 21 "VoiceRows$Score" "voice" "[I", Cond.methodLink RX6 52 yX6_following, Cond.instanceMethod yX6_following, Cond.selects RX6 yX6_following yX6_following, Cond.code yX6_following cX6_following 3 (some .int), Cond.fieldLink RX6 27 "VoiceRows$Score" "rank" "[I", Cond.fieldLink RX6 24 "VoiceRows$Score" "order" "[I", Cond.methodLink RX6 49 yX6_together, Cond.instanceMethod yX6_together, Cond.selects RX6 yX6_together yX6_together, Cond.code yX6_together cX6_together 3 (some .boolean), Cond.fieldLink RX6 9 "VoiceRows$Score" "from" "[I"]
def wsX7_cost_r2 : List Cond := [Cond.fieldLink RX6 15 "VoiceRows$Score" "to" "[I", Cond.methodLink RX7 123 yX0_part, Cond.instanceMethod yX0_part, Cond.selects RX0 yX0_part yX0_part, Cond.initialized RX0, Cond.code yX0_part cX0_part 2 (some .int), Cond.methodLink RX0 23 yX0_leaps, Cond.instanceMethod yX0_leaps, Cond.selects RX0 yX0_leaps yX0_leaps, Cond.code yX0_leaps cX0_leaps 4 (some .int), Cond.fieldLink RX0 9 "VoiceRows$Bill" "score" "LVoiceRows$Score;", Cond.fieldLink RX0 36 "VoiceRows$Score" "count" "I", Cond.fieldLink RX0 46 "VoiceRows$Score" "pitch" "[I", Cond.methodLink RX0 49 Lib.Math.abs.name, Cond.static Lib.Math.abs.name, Cond.initialized "java/lang/Math", Cond.code Lib.Math.abs.name Lib.Math.abs.code 1 (some .int), Cond.fieldLink RX0 15 "VoiceRows$Bill" "weights" "[I", Cond.methodLink RX0 42 yX6_following, Cond.methodLink RX0 27 yX0_gaps, Cond.instanceMethod yX0_gaps, Cond.selects RX0 yX0_gaps yX0_gaps, Cond.code yX0_gaps cX0_gaps 4 (some .int), Cond.fieldLink RX0 54 "VoiceRows$Score" "from" "[I"]
def wsX7_cost_r3 : List Cond := [Cond.fieldLink RX0 57 "VoiceRows$Score" "to" "[I", Cond.methodLink RX0 30 yX0_crossings, Cond.instanceMethod yX0_crossings, Cond.selects RX0 yX0_crossings yX0_crossings, Cond.code yX0_crossings cX0_crossings 1 (some .int), Cond.fieldLink RX0 19 "VoiceRows$Bill" "pairRows" "LVoiceRows$PairRows;", Cond.methodLink RX0 60 yX4_scan, Cond.instanceMethod yX4_scan, Cond.selects RX4 yX4_scan yX4_scan, Cond.initialized RX4, Cond.code yX4_scan cX4_scan 6 (some .int), Cond.fieldLink RX4 9 "VoiceRows$PairRows" "score" "LVoiceRows$Score;", Cond.fieldLink RX4 15 "VoiceRows$Score" "count" "I", Cond.fieldLink RX4 21 "VoiceRows$Score" "order" "[I", Cond.fieldLink RX4 29 "VoiceRows$PairRows" "one" "I", Cond.fieldLink RX4 32 "VoiceRows$PairRows" "other" "I", Cond.methodLink RX4 25 yX4_isPair, Cond.instanceMethod yX4_isPair, Cond.selects RX4 yX4_isPair yX4_isPair, Cond.code yX4_isPair cX4_isPair 4 (some .boolean), Cond.fieldLink RX4 35 "VoiceRows$Score" "voice" "[I", Cond.methodLink RX4 38 yX6_together, Cond.methodLink RX4 42 yX4_isUnder, Cond.instanceMethod yX4_isUnder]
def wsX7_cost_r4 : List Cond := [Cond.selects RX4 yX4_isUnder yX4_isUnder, Cond.code yX4_isUnder cX4_isUnder 3 (some .boolean), Cond.fieldLink RX4 51 "VoiceRows$Score" "pitch" "[I", Cond.methodLink RX4 45 yX4_doMeet, Cond.instanceMethod yX4_doMeet, Cond.selects RX4 yX4_doMeet yX4_doMeet, Cond.code yX4_doMeet cX4_doMeet 3 (some .boolean), Cond.methodLink RX4 48 yX4_sameSpan, Cond.instanceMethod yX4_sameSpan, Cond.selects RX4 yX4_sameSpan yX4_sameSpan, Cond.code yX4_sameSpan cX4_sameSpan 3 (some .boolean), Cond.fieldLink RX4 54 "VoiceRows$Score" "from" "[I", Cond.fieldLink RX4 57 "VoiceRows$Score" "to" "[I", Cond.methodLink RX0 33 yX0_used, Cond.instanceMethod yX0_used, Cond.selects RX0 yX0_used yX0_used, Cond.code yX0_used cX0_used 1 (some .int), Cond.methodLink RX0 66 yX6_voicesUsed, Cond.instanceMethod yX6_voicesUsed, Cond.selects RX6 yX6_voicesUsed yX6_voicesUsed, Cond.code yX6_voicesUsed cX6_voicesUsed 3 (some .int), Cond.methodLink RX6 65 yX6_notesIn, Cond.instanceMethod yX6_notesIn, Cond.selects RX6 yX6_notesIn yX6_notesIn]
def wsX7_cost_r5 : List Cond := [Cond.code yX6_notesIn cX6_notesIn 4 (some .int)]
def wsX7_cost : List Cond := .code yX7_cost cX7_cost 2 (some .int) :: ((wsX7_cost_r1 ++ (wsX7_cost_r2 ++ (wsX7_cost_r3 ++ (wsX7_cost_r4 ++ wsX7_cost_r5)))) ++ wsX70 ++ wsX60 ++ wsX00 ++ wsX40)
def wsX7_of_r1 : List Cond := [Cond.fieldLink RX7 10 "VoiceRows" "score" "LVoiceRows$Score;", Cond.fieldLink RX7 126 "VoiceRows$Score" "from" "[I", Cond.fieldLink RX7 129 "VoiceRows$Score" "to" "[I", Cond.fieldLink RX7 132 "VoiceRows$Score" "pitch" "[I", Cond.fieldLink RX7 103 "VoiceRows$Score" "voice" "[I", Cond.fieldLink RX7 135 "VoiceRows$Score" "rank" "[I", Cond.methodLink RX7 92 yX6_has, Cond.instanceMethod yX6_has, Cond.selects RX6 yX6_has yX6_has, Cond.initialized RX6, Cond.code yX6_has cX6_has 2 (some .boolean), Cond.fieldLink RX6 30 "VoiceRows$Score" "count" "I", Cond.static yX7_within, Cond.initialized RX7, Cond.code yX7_within cX7_within 3 (some .boolean), Cond.methodLink RX7 138 yX6_following, Cond.instanceMethod yX6_following, Cond.selects RX6 yX6_following yX6_following, Cond.code yX6_following cX6_following 3 (some .int), Cond.fieldLink RX6 21 "VoiceRows$Score" "voice" "[I", Cond.fieldLink RX6 27 "VoiceRows$Score" "rank" "[I", Cond.fieldLink RX6 24 "VoiceRows$Score" "order" "[I", Cond.methodLink RX7 141 yX6_clashes, Cond.instanceMethod yX6_clashes]
def wsX7_of_r2 : List Cond := [Cond.selects RX6 yX6_clashes yX6_clashes, Cond.code yX6_clashes cX6_clashes 4 (some .int), Cond.methodLink RX6 49 yX6_together, Cond.instanceMethod yX6_together, Cond.selects RX6 yX6_together yX6_together, Cond.code yX6_together cX6_together 3 (some .boolean), Cond.fieldLink RX6 9 "VoiceRows$Score" "from" "[I", Cond.fieldLink RX6 15 "VoiceRows$Score" "to" "[I"]
def wsX7_of : List Cond := .code yX7_of cX7_of 3 (some .int) :: ((wsX7_of_r1 ++ wsX7_of_r2) ++ wsX70 ++ wsX60)
def wsX7_ranked : List Cond := .code yX7_ranked cX7_ranked 2 (some .int) :: ([.fieldLink RX7 10 "VoiceRows" "score" "LVoiceRows$Score;", .fieldLink RX7 74 "VoiceRows$Score" "count" "I", .fieldLink RX7 144 "VoiceRows$Score" "order" "[I", .methodLink RX7 100 yX7_within, .static yX7_within, .initialized RX7, .code yX7_within cX7_within 3 (some .boolean)] ++ wsX70 ++ wsX60)
def wsX7_sounding : List Cond := .code yX7_sounding cX7_sounding 2 (some .int) :: ([.constant RX7 147 (100000), .fieldLink RX7 10 "VoiceRows" "score" "LVoiceRows$Score;", .methodLink RX7 100 yX7_within, .static yX7_within, .initialized RX7, .code yX7_within cX7_within 3 (some .boolean), .methodLink RX7 148 yX6_soundingAt, .instanceMethod yX6_soundingAt, .selects RX6 yX6_soundingAt yX6_soundingAt, .initialized RX6, .code yX6_soundingAt cX6_soundingAt 4 (some .int), .fieldLink RX6 30 "VoiceRows$Score" "count" "I", .fieldLink RX6 9 "VoiceRows$Score" "from" "[I", .fieldLink RX6 15 "VoiceRows$Score" "to" "[I"] ++ wsX70 ++ wsX60)
def wsX7_needed : List Cond := .code yX7_needed cX7_needed 1 (some .int) :: ([.fieldLink RX7 10 "VoiceRows" "score" "LVoiceRows$Score;", .methodLink RX7 151 yX6_thickest, .instanceMethod yX6_thickest, .selects RX6 yX6_thickest yX6_thickest, .initialized RX6, .code yX6_thickest cX6_thickest 3 (some .int), .fieldLink RX6 30 "VoiceRows$Score" "count" "I", .fieldLink RX6 9 "VoiceRows$Score" "from" "[I", .methodLink RX6 59 Lib.Math.max.name, .static Lib.Math.max.name, .initialized "java/lang/Math", .code Lib.Math.max.name Lib.Math.max.code 2 (some .int), .methodLink RX6 56 yX6_soundingAt, .instanceMethod yX6_soundingAt, .selects RX6 yX6_soundingAt yX6_soundingAt, .code yX6_soundingAt cX6_soundingAt 4 (some .int), .fieldLink RX6 15 "VoiceRows$Score" "to" "[I"] ++ wsX70 ++ wsX60)
def wsX7_rests_r1 : List Cond := [Cond.fieldLink RX7 33 "VoiceRows" "restRows" "LVoiceRows$RestRows;", Cond.fieldLink RX7 159 "VoiceRows$RestRows" "count" "I", Cond.methodLink RX7 100 yX7_within, Cond.static yX7_within, Cond.initialized RX7, Cond.code yX7_within cX7_within 3 (some .boolean), Cond.methodLink RX7 155 yX5_collect, Cond.instanceMethod yX5_collect, Cond.selects RX5 yX5_collect yX5_collect, Cond.initialized RX5, Cond.code yX5_collect cX5_collect 5 none, Cond.fieldLink RX5 22 "VoiceRows$RestRows" "count" "I", Cond.fieldLink RX5 18 "VoiceRows$RestRows" "score" "LVoiceRows$Score;", Cond.fieldLink RX5 26 "VoiceRows$Score" "count" "I", Cond.fieldLink RX5 29 "VoiceRows$Score" "order" "[I", Cond.fieldLink RX5 36 "VoiceRows$Score" "from" "[I", Cond.fieldLink RX5 43 "VoiceRows$Score" "to" "[I", Cond.methodLink RX5 46 Lib.Math.max.name, Cond.static Lib.Math.max.name, Cond.initialized "java/lang/Math", Cond.code Lib.Math.max.name Lib.Math.max.code 2 (some .int), Cond.methodLink RX5 32 yX5_breaksRest, Cond.instanceMethod yX5_breaksRest, Cond.selects RX5 yX5_breaksRest yX5_breaksRest]
def wsX7_rests_r2 : List Cond := [Cond.code yX5_breaksRest cX5_breaksRest 3 (some .boolean), Cond.fieldLink RX5 56 "VoiceRows$Score" "voice" "[I", Cond.methodLink RX5 39 yX5_keep, Cond.instanceMethod yX5_keep, Cond.selects RX5 yX5_keep yX5_keep, Cond.code yX5_keep cX5_keep 3 none, Cond.fieldLink RX5 9 "VoiceRows$RestRows" "begin" "[I", Cond.fieldLink RX5 15 "VoiceRows$RestRows" "end" "[I", Cond.methodLink RX5 52 yX6_theEnd, Cond.instanceMethod yX6_theEnd, Cond.selects RX6 yX6_theEnd yX6_theEnd, Cond.initialized RX6, Cond.code yX6_theEnd cX6_theEnd 3 (some .int), Cond.fieldLink RX6 30 "VoiceRows$Score" "count" "I", Cond.fieldLink RX6 15 "VoiceRows$Score" "to" "[I", Cond.methodLink RX6 59 Lib.Math.max.name]
def wsX7_rests : List Cond := .code yX7_rests cX7_rests 2 (some .int) :: ((wsX7_rests_r1 ++ wsX7_rests_r2) ++ wsX70 ++ wsX50 ++ wsX60)
def wsX7_rest_r1 : List Cond := [Cond.fieldLink RX7 33 "VoiceRows" "restRows" "LVoiceRows$RestRows;", Cond.fieldLink RX7 159 "VoiceRows$RestRows" "count" "I", Cond.fieldLink RX7 160 "VoiceRows$RestRows" "begin" "[I", Cond.fieldLink RX7 163 "VoiceRows$RestRows" "end" "[I", Cond.methodLink RX7 100 yX7_within, Cond.static yX7_within, Cond.initialized RX7, Cond.code yX7_within cX7_within 3 (some .boolean), Cond.methodLink RX7 155 yX5_collect, Cond.instanceMethod yX5_collect, Cond.selects RX5 yX5_collect yX5_collect, Cond.initialized RX5, Cond.code yX5_collect cX5_collect 5 none, Cond.fieldLink RX5 22 "VoiceRows$RestRows" "count" "I", Cond.fieldLink RX5 18 "VoiceRows$RestRows" "score" "LVoiceRows$Score;", Cond.fieldLink RX5 26 "VoiceRows$Score" "count" "I", Cond.fieldLink RX5 29 "VoiceRows$Score" "order" "[I", Cond.fieldLink RX5 36 "VoiceRows$Score" "from" "[I", Cond.fieldLink RX5 43 "VoiceRows$Score" "to" "[I", Cond.methodLink RX5 46 Lib.Math.max.name, Cond.static Lib.Math.max.name, Cond.initialized "java/lang/Math", Cond.code Lib.Math.max.name Lib.Math.max.code 2 (some .int), Cond.methodLink RX5 32 yX5_breaksRest]
def wsX7_rest_r2 : List Cond := [Cond.instanceMethod yX5_breaksRest, Cond.selects RX5 yX5_breaksRest yX5_breaksRest, Cond.code yX5_breaksRest cX5_breaksRest 3 (some .boolean), Cond.fieldLink RX5 56 "VoiceRows$Score" "voice" "[I", Cond.methodLink RX5 39 yX5_keep, Cond.instanceMethod yX5_keep, Cond.selects RX5 yX5_keep yX5_keep, Cond.code yX5_keep cX5_keep 3 none, Cond.fieldLink RX5 9 "VoiceRows$RestRows" "begin" "[I", Cond.fieldLink RX5 15 "VoiceRows$RestRows" "end" "[I", Cond.methodLink RX5 52 yX6_theEnd, Cond.instanceMethod yX6_theEnd, Cond.selects RX6 yX6_theEnd yX6_theEnd, Cond.initialized RX6, Cond.code yX6_theEnd cX6_theEnd 3 (some .int), Cond.fieldLink RX6 30 "VoiceRows$Score" "count" "I", Cond.fieldLink RX6 15 "VoiceRows$Score" "to" "[I", Cond.methodLink RX6 59 Lib.Math.max.name]
def wsX7_rest : List Cond := .code yX7_rest cX7_rest 4 (some .int) :: ((wsX7_rest_r1 ++ wsX7_rest_r2) ++ wsX70 ++ wsX50 ++ wsX60)
def wsX7_pairs_r1 : List Cond := [Cond.fieldLink RX7 40 "VoiceRows" "pairRows" "LVoiceRows$PairRows;", Cond.methodLink RX7 100 yX7_within, Cond.static yX7_within, Cond.initialized RX7, Cond.code yX7_within cX7_within 3 (some .boolean), Cond.methodLink RX7 166 yX4_scan, Cond.instanceMethod yX4_scan, Cond.selects RX4 yX4_scan yX4_scan, Cond.initialized RX4, Cond.code yX4_scan cX4_scan 6 (some .int), Cond.fieldLink RX4 9 "VoiceRows$PairRows" "score" "LVoiceRows$Score;", Cond.fieldLink RX4 15 "VoiceRows$Score" "count" "I", Cond.fieldLink RX4 21 "VoiceRows$Score" "order" "[I", Cond.fieldLink RX4 29 "VoiceRows$PairRows" "one" "I", Cond.fieldLink RX4 32 "VoiceRows$PairRows" "other" "I", Cond.methodLink RX4 25 yX4_isPair, Cond.instanceMethod yX4_isPair, Cond.selects RX4 yX4_isPair yX4_isPair, Cond.code yX4_isPair cX4_isPair 4 (some .boolean), Cond.fieldLink RX4 35 "VoiceRows$Score" "voice" "[I", Cond.methodLink RX4 38 yX6_together, Cond.instanceMethod yX6_together, Cond.selects RX6 yX6_together yX6_together, Cond.initialized RX6]
def wsX7_pairs_r2 : List Cond := [Cond.code yX6_together cX6_together 3 (some .boolean), Cond.fieldLink RX6 9 "VoiceRows$Score" "from" "[I", Cond.fieldLink RX6 15 "VoiceRows$Score" "to" "[I", Cond.methodLink RX4 42 yX4_isUnder, Cond.instanceMethod yX4_isUnder, Cond.selects RX4 yX4_isUnder yX4_isUnder, Cond.code yX4_isUnder cX4_isUnder 3 (some .boolean), Cond.fieldLink RX4 51 "VoiceRows$Score" "pitch" "[I", Cond.methodLink RX4 45 yX4_doMeet, Cond.instanceMethod yX4_doMeet, Cond.selects RX4 yX4_doMeet yX4_doMeet, Cond.code yX4_doMeet cX4_doMeet 3 (some .boolean), Cond.methodLink RX4 48 yX4_sameSpan, Cond.instanceMethod yX4_sameSpan, Cond.selects RX4 yX4_sameSpan yX4_sameSpan, Cond.code yX4_sameSpan cX4_sameSpan 3 (some .boolean), Cond.fieldLink RX4 54 "VoiceRows$Score" "from" "[I", Cond.fieldLink RX4 57 "VoiceRows$Score" "to" "[I"]
def wsX7_pairs : List Cond := .code yX7_pairs cX7_pairs 2 (some .int) :: ((wsX7_pairs_r1 ++ wsX7_pairs_r2) ++ wsX70 ++ wsX40 ++ wsX60)
def wsX7_pair_r1 : List Cond := [Cond.fieldLink RX7 40 "VoiceRows" "pairRows" "LVoiceRows$PairRows;", Cond.fieldLink RX7 170 "VoiceRows$PairRows" "one" "I", Cond.fieldLink RX7 173 "VoiceRows$PairRows" "other" "I", Cond.methodLink RX7 100 yX7_within, Cond.static yX7_within, Cond.initialized RX7, Cond.code yX7_within cX7_within 3 (some .boolean), Cond.methodLink RX7 166 yX4_scan, Cond.instanceMethod yX4_scan, Cond.selects RX4 yX4_scan yX4_scan, Cond.initialized RX4, Cond.code yX4_scan cX4_scan 6 (some .int), Cond.fieldLink RX4 9 "VoiceRows$PairRows" "score" "LVoiceRows$Score;", Cond.fieldLink RX4 15 "VoiceRows$Score" "count" "I", Cond.fieldLink RX4 21 "VoiceRows$Score" "order" "[I", Cond.fieldLink RX4 29 "VoiceRows$PairRows" "one" "I", Cond.fieldLink RX4 32 "VoiceRows$PairRows" "other" "I", Cond.methodLink RX4 25 yX4_isPair, Cond.instanceMethod yX4_isPair, Cond.selects RX4 yX4_isPair yX4_isPair, Cond.code yX4_isPair cX4_isPair 4 (some .boolean), Cond.fieldLink RX4 35 "VoiceRows$Score" "voice" "[I", Cond.methodLink RX4 38 yX6_together, Cond.instanceMethod yX6_together]
def wsX7_pair_r2 : List Cond := [Cond.selects RX6 yX6_together yX6_together, Cond.initialized RX6, Cond.code yX6_together cX6_together 3 (some .boolean), Cond.fieldLink RX6 9 "VoiceRows$Score" "from" "[I", Cond.fieldLink RX6 15 "VoiceRows$Score" "to" "[I", Cond.methodLink RX4 42 yX4_isUnder, Cond.instanceMethod yX4_isUnder, Cond.selects RX4 yX4_isUnder yX4_isUnder, Cond.code yX4_isUnder cX4_isUnder 3 (some .boolean), Cond.fieldLink RX4 51 "VoiceRows$Score" "pitch" "[I", Cond.methodLink RX4 45 yX4_doMeet, Cond.instanceMethod yX4_doMeet, Cond.selects RX4 yX4_doMeet yX4_doMeet, Cond.code yX4_doMeet cX4_doMeet 3 (some .boolean), Cond.methodLink RX4 48 yX4_sameSpan, Cond.instanceMethod yX4_sameSpan, Cond.selects RX4 yX4_sameSpan yX4_sameSpan, Cond.code yX4_sameSpan cX4_sameSpan 3 (some .boolean), Cond.fieldLink RX4 54 "VoiceRows$Score" "from" "[I", Cond.fieldLink RX4 57 "VoiceRows$Score" "to" "[I"]
def wsX7_pair : List Cond := .code yX7_pair cX7_pair 5 (some .int) :: ((wsX7_pair_r1 ++ wsX7_pair_r2) ++ wsX70 ++ wsX40 ++ wsX60)
def wsX7_voice_r1 : List Cond := [Cond.fieldLink RX7 10 "VoiceRows" "score" "LVoiceRows$Score;", Cond.methodLink RX7 100 yX7_within, Cond.static yX7_within, Cond.initialized RX7, Cond.code yX7_within cX7_within 3 (some .boolean), Cond.methodLink RX7 176 yX6_lowestIn, Cond.instanceMethod yX6_lowestIn, Cond.selects RX6 yX6_lowestIn yX6_lowestIn, Cond.initialized RX6, Cond.code yX6_lowestIn cX6_lowestIn 4 (some .int), Cond.fieldLink RX6 30 "VoiceRows$Score" "count" "I", Cond.fieldLink RX6 21 "VoiceRows$Score" "voice" "[I", Cond.fieldLink RX6 18 "VoiceRows$Score" "pitch" "[I", Cond.methodLink RX7 179 yX6_highestIn, Cond.instanceMethod yX6_highestIn, Cond.selects RX6 yX6_highestIn yX6_highestIn, Cond.code yX6_highestIn cX6_highestIn 4 (some .int), Cond.methodLink RX6 59 Lib.Math.max.name, Cond.static Lib.Math.max.name, Cond.initialized "java/lang/Math", Cond.code Lib.Math.max.name Lib.Math.max.code 2 (some .int), Cond.methodLink RX7 182 yX6_notesIn, Cond.instanceMethod yX6_notesIn, Cond.selects RX6 yX6_notesIn yX6_notesIn]
def wsX7_voice_r2 : List Cond := [Cond.code yX6_notesIn cX6_notesIn 4 (some .int)]
def wsX7_voice : List Cond := .code yX7_voice cX7_voice 3 (some .int) :: ((wsX7_voice_r1 ++ wsX7_voice_r2) ++ wsX70 ++ wsX60)
def wsX7_told_r1 : List Cond := [Cond.fieldLink RX7 10 "VoiceRows" "score" "LVoiceRows$Score;", Cond.fieldLink RX7 74 "VoiceRows$Score" "count" "I", Cond.methodLink RX7 182 yX6_notesIn, Cond.instanceMethod yX6_notesIn, Cond.selects RX6 yX6_notesIn yX6_notesIn, Cond.initialized RX6, Cond.code yX6_notesIn cX6_notesIn 4 (some .int), Cond.fieldLink RX6 30 "VoiceRows$Score" "count" "I", Cond.fieldLink RX6 21 "VoiceRows$Score" "voice" "[I", Cond.methodLink RX7 185 yX6_theEnd, Cond.instanceMethod yX6_theEnd, Cond.selects RX6 yX6_theEnd yX6_theEnd, Cond.code yX6_theEnd cX6_theEnd 3 (some .int), Cond.fieldLink RX6 15 "VoiceRows$Score" "to" "[I", Cond.methodLink RX6 59 Lib.Math.max.name, Cond.static Lib.Math.max.name, Cond.initialized "java/lang/Math", Cond.code Lib.Math.max.name Lib.Math.max.code 2 (some .int), Cond.methodLink RX7 119 yX6_isWhole, Cond.instanceMethod yX6_isWhole, Cond.selects RX6 yX6_isWhole yX6_isWhole, Cond.code yX6_isWhole cX6_isWhole 3 (some .boolean), Cond.methodLink RX6 52 yX6_following, Cond.instanceMethod yX6_following]
def wsX7_told_r2 : List Cond := [Cond.selects RX6 yX6_following yX6_following, Cond.code yX6_following cX6_following 3 (some .int), Cond.fieldLink RX6 27 "VoiceRows$Score" "rank" "[I", Cond.fieldLink RX6 24 "VoiceRows$Score" "order" "[I", Cond.methodLink RX6 49 yX6_together, Cond.instanceMethod yX6_together, Cond.selects RX6 yX6_together yX6_together, Cond.code yX6_together cX6_together 3 (some .boolean), Cond.fieldLink RX6 9 "VoiceRows$Score" "from" "[I", Cond.methodLink RX7 188 yX6_voicesUsed, Cond.instanceMethod yX6_voicesUsed, Cond.selects RX6 yX6_voicesUsed yX6_voicesUsed, Cond.code yX6_voicesUsed cX6_voicesUsed 3 (some .int), Cond.methodLink RX6 65 yX6_notesIn]
def wsX7_told : List Cond := .code yX7_told cX7_told 2 (some .int) :: ((wsX7_told_r1 ++ wsX7_told_r2) ++ wsX70 ++ wsX60)
def wsX8_init : List Cond := .code yX8_init cX8_init 1 none :: ([.methodLink RX8 1 objectInit, .instanceMethod objectInit, .code objectInit ⟨#[0xb1]⟩ 1 none, .arrayClass .int, .fieldLink RX8 7 "VoiceRowsModel" "from" "[I", .fieldLink RX8 13 "VoiceRowsModel" "to" "[I", .fieldLink RX8 16 "VoiceRowsModel" "pitch" "[I", .fieldLink RX8 19 "VoiceRowsModel" "voice" "[I", .fieldLink RX8 22 "VoiceRowsModel" "weights" "[I", .fieldLink RX8 25 "VoiceRowsModel" "order" "[I", .fieldLink RX8 28 "VoiceRowsModel" "given" "[I", .fieldLink RX8 31 "VoiceRowsModel" "last" "[I", .constant RX8 34 (759375), .fieldLink RX8 35 "VoiceRowsModel" "rest" "[I"] ++ wsX80)
def wsX8_clear : List Cond := .code yX8_clear cX8_clear 2 (some .int) :: ([.fieldLink RX8 38 "VoiceRowsModel" "notes" "I", .fieldLink RX8 22 "VoiceRowsModel" "weights" "[I"] ++ wsX80)
def wsX8_isNote : List Cond := .code yX8_isNote cX8_isNote 3 (some .boolean) :: ([.constant RX8 42 (100000)])
def wsX8_ahead : List Cond := .code yX8_ahead cX8_ahead 3 (some .boolean) :: ([.fieldLink RX8 7 "VoiceRowsModel" "from" "[I", .fieldLink RX8 16 "VoiceRowsModel" "pitch" "[I"] ++ wsX80)
def wsX8_rank : List Cond := .code yX8_rank cX8_rank 4 (some .int) :: ([.fieldLink RX8 38 "VoiceRowsModel" "notes" "I", .methodLink RX8 43 yX8_ahead, .instanceMethod yX8_ahead, .selects RX8 yX8_ahead yX8_ahead, .initialized RX8, .code yX8_ahead cX8_ahead 3 (some .boolean), .fieldLink RX8 7 "VoiceRowsModel" "from" "[I", .fieldLink RX8 16 "VoiceRowsModel" "pitch" "[I"] ++ wsX80)
def wsX8_sort : List Cond := .code yX8_sort cX8_sort 2 none :: ([.fieldLink RX8 38 "VoiceRowsModel" "notes" "I", .fieldLink RX8 25 "VoiceRowsModel" "order" "[I", .methodLink RX8 47 yX8_rank, .instanceMethod yX8_rank, .selects RX8 yX8_rank yX8_rank, .initialized RX8, .code yX8_rank cX8_rank 4 (some .int), .methodLink RX8 43 yX8_ahead, .instanceMethod yX8_ahead, .selects RX8 yX8_ahead yX8_ahead, .code yX8_ahead cX8_ahead 3 (some .boolean), .fieldLink RX8 7 "VoiceRowsModel" "from" "[I", .fieldLink RX8 16 "VoiceRowsModel" "pitch" "[I"] ++ wsX80)
def wsX8_together : List Cond := .code yX8_together cX8_together 3 (some .boolean) :: ([.fieldLink RX8 7 "VoiceRowsModel" "from" "[I", .fieldLink RX8 13 "VoiceRowsModel" "to" "[I"] ++ wsX80)
def wsX8_note : List Cond := .code yX8_note cX8_note 4 (some .int) :: ([.fieldLink RX8 38 "VoiceRowsModel" "notes" "I", .fieldLink RX8 7 "VoiceRowsModel" "from" "[I", .fieldLink RX8 13 "VoiceRowsModel" "to" "[I", .fieldLink RX8 16 "VoiceRowsModel" "pitch" "[I", .fieldLink RX8 19 "VoiceRowsModel" "voice" "[I", .methodLink RX8 51 yX8_isNote, .static yX8_isNote, .initialized RX8, .code yX8_isNote cX8_isNote 3 (some .boolean), .constant RX8 42 (100000), .methodLink RX8 55 yX8_sort, .instanceMethod yX8_sort, .selects RX8 yX8_sort yX8_sort, .code yX8_sort cX8_sort 2 none, .fieldLink RX8 25 "VoiceRowsModel" "order" "[I", .methodLink RX8 47 yX8_rank, .instanceMethod yX8_rank, .selects RX8 yX8_rank yX8_rank, .code yX8_rank cX8_rank 4 (some .int), .methodLink RX8 43 yX8_ahead, .instanceMethod yX8_ahead, .selects RX8 yX8_ahead yX8_ahead, .code yX8_ahead cX8_ahead 3 (some .boolean)] ++ wsX80)
def wsX8_move : List Cond := .code yX8_move cX8_move 5 (some .int) :: ([.fieldLink RX8 38 "VoiceRowsModel" "notes" "I", .fieldLink RX8 7 "VoiceRowsModel" "from" "[I", .fieldLink RX8 13 "VoiceRowsModel" "to" "[I", .fieldLink RX8 16 "VoiceRowsModel" "pitch" "[I", .methodLink RX8 51 yX8_isNote, .static yX8_isNote, .initialized RX8, .code yX8_isNote cX8_isNote 3 (some .boolean), .constant RX8 42 (100000), .methodLink RX8 55 yX8_sort, .instanceMethod yX8_sort, .selects RX8 yX8_sort yX8_sort, .code yX8_sort cX8_sort 2 none, .fieldLink RX8 25 "VoiceRowsModel" "order" "[I", .methodLink RX8 47 yX8_rank, .instanceMethod yX8_rank, .selects RX8 yX8_rank yX8_rank, .code yX8_rank cX8_rank 4 (some .int), .methodLink RX8 43 yX8_ahead, .instanceMethod yX8_ahead, .selects RX8 yX8_ahead yX8_ahead, .code yX8_ahead cX8_ahead 3 (some .boolean)] ++ wsX80)
def wsX8_weigh : List Cond := .code yX8_weigh cX8_weigh 4 (some .int) :: ([.fieldLink RX8 22 "VoiceRowsModel" "weights" "[I"] ++ wsX80)
def wsX8_put : List Cond := .code yX8_put cX8_put 4 (some .int) :: ([.fieldLink RX8 38 "VoiceRowsModel" "notes" "I", .fieldLink RX8 19 "VoiceRowsModel" "voice" "[I"] ++ wsX80)
def wsX8_place : List Cond := .code yX8_place cX8_place 2 (some .int) :: ([.constant RX8 58 (50625), .fieldLink RX8 31 "VoiceRowsModel" "last" "[I"] ++ wsX80)
def wsX8_price : List Cond := .code yX8_price cX8_price 7 (some .int) :: ([.fieldLink RX8 25 "VoiceRowsModel" "order" "[I", .fieldLink RX8 22 "VoiceRowsModel" "weights" "[I", .fieldLink RX8 31 "VoiceRowsModel" "last" "[I", .constant RX8 62 (2000000000), .fieldLink RX8 16 "VoiceRowsModel" "pitch" "[I", .fieldLink RX8 7 "VoiceRowsModel" "from" "[I", .fieldLink RX8 13 "VoiceRowsModel" "to" "[I", .methodLink RX8 59 yX8_together, .instanceMethod yX8_together, .selects RX8 yX8_together yX8_together, .initialized RX8, .code yX8_together cX8_together 3 (some .boolean)] ++ wsX80)
def wsX8_through : List Cond := .code yX8_through cX8_through 6 (some .int) :: ([.constant RX8 62 (2000000000), .fieldLink RX8 31 "VoiceRowsModel" "last" "[I", .fieldLink RX8 35 "VoiceRowsModel" "rest" "[I", .methodLink RX8 70 yX8_price, .instanceMethod yX8_price, .selects RX8 yX8_price yX8_price, .initialized RX8, .code yX8_price cX8_price 7 (some .int), .fieldLink RX8 25 "VoiceRowsModel" "order" "[I", .fieldLink RX8 22 "VoiceRowsModel" "weights" "[I", .fieldLink RX8 16 "VoiceRowsModel" "pitch" "[I", .fieldLink RX8 7 "VoiceRowsModel" "from" "[I", .fieldLink RX8 13 "VoiceRowsModel" "to" "[I", .methodLink RX8 59 yX8_together, .instanceMethod yX8_together, .selects RX8 yX8_together yX8_together, .code yX8_together cX8_together 3 (some .boolean), .methodLink RX8 63 yX8_place, .instanceMethod yX8_place, .selects RX8 yX8_place yX8_place, .code yX8_place cX8_place 2 (some .int), .constant RX8 58 (50625)] ++ wsX80)
def wsX8_leastOf_r1 : List Cond := [Cond.constant RX8 62 (2000000000), Cond.methodLink RX8 73 yX8_through, Cond.instanceMethod yX8_through, Cond.selects RX8 yX8_through yX8_through, Cond.initialized RX8, Cond.code yX8_through cX8_through 6 (some .int), Cond.fieldLink RX8 31 "VoiceRowsModel" "last" "[I", Cond.fieldLink RX8 35 "VoiceRowsModel" "rest" "[I", Cond.methodLink RX8 70 yX8_price, Cond.instanceMethod yX8_price, Cond.selects RX8 yX8_price yX8_price, Cond.code yX8_price cX8_price 7 (some .int), Cond.fieldLink RX8 25 "VoiceRowsModel" "order" "[I", Cond.fieldLink RX8 22 "VoiceRowsModel" "weights" "[I", Cond.fieldLink RX8 16 "VoiceRowsModel" "pitch" "[I", Cond.fieldLink RX8 7 "VoiceRowsModel" "from" "[I", Cond.fieldLink RX8 13 "VoiceRowsModel" "to" "[I", Cond.methodLink RX8 59 yX8_together, Cond.instanceMethod yX8_together, Cond.selects RX8 yX8_together yX8_together, Cond.code yX8_together cX8_together 3 (some .boolean), Cond.methodLink RX8 63 yX8_place, Cond.instanceMethod yX8_place, Cond.selects RX8 yX8_place yX8_place]
def wsX8_leastOf_r2 : List Cond := [Cond.code yX8_place cX8_place 2 (some .int), Cond.constant RX8 58 (50625)]
def wsX8_leastOf : List Cond := .code yX8_leastOf cX8_leastOf 6 (some .int) :: ((wsX8_leastOf_r1 ++ wsX8_leastOf_r2) ++ wsX80)
def wsX8_level_r1 : List Cond := [Cond.fieldLink RX8 31 "VoiceRowsModel" "last" "[I", Cond.fieldLink RX8 35 "VoiceRowsModel" "rest" "[I", Cond.fieldLink RX8 38 "VoiceRowsModel" "notes" "I", Cond.methodLink RX8 63 yX8_place, Cond.instanceMethod yX8_place, Cond.selects RX8 yX8_place yX8_place, Cond.initialized RX8, Cond.code yX8_place cX8_place 2 (some .int), Cond.constant RX8 58 (50625), Cond.methodLink RX8 66 yX8_leastOf, Cond.instanceMethod yX8_leastOf, Cond.selects RX8 yX8_leastOf yX8_leastOf, Cond.code yX8_leastOf cX8_leastOf 6 (some .int), Cond.constant RX8 62 (2000000000), Cond.methodLink RX8 73 yX8_through, Cond.instanceMethod yX8_through, Cond.selects RX8 yX8_through yX8_through, Cond.code yX8_through cX8_through 6 (some .int), Cond.methodLink RX8 70 yX8_price, Cond.instanceMethod yX8_price, Cond.selects RX8 yX8_price yX8_price, Cond.code yX8_price cX8_price 7 (some .int), Cond.fieldLink RX8 25 "VoiceRowsModel" "order" "[I", Cond.fieldLink RX8 22 "VoiceRowsModel" "weights" "[I"]
def wsX8_level_r2 : List Cond := [Cond.fieldLink RX8 16 "VoiceRowsModel" "pitch" "[I", Cond.fieldLink RX8 7 "VoiceRowsModel" "from" "[I", Cond.fieldLink RX8 13 "VoiceRowsModel" "to" "[I", Cond.methodLink RX8 59 yX8_together, Cond.instanceMethod yX8_together, Cond.selects RX8 yX8_together yX8_together, Cond.code yX8_together cX8_together 3 (some .boolean)]
def wsX8_level : List Cond := .code yX8_level cX8_level 8 none :: ((wsX8_level_r1 ++ wsX8_level_r2) ++ wsX80)
def wsX8_search_r1 : List Cond := [Cond.fieldLink RX8 38 "VoiceRowsModel" "notes" "I", Cond.fieldLink RX8 31 "VoiceRowsModel" "last" "[I", Cond.fieldLink RX8 35 "VoiceRowsModel" "rest" "[I", Cond.constant RX8 62 (2000000000), Cond.fieldLink RX8 28 "VoiceRowsModel" "given" "[I", Cond.methodLink RX8 76 yX8_level, Cond.instanceMethod yX8_level, Cond.selects RX8 yX8_level yX8_level, Cond.initialized RX8, Cond.code yX8_level cX8_level 8 none, Cond.methodLink RX8 63 yX8_place, Cond.instanceMethod yX8_place, Cond.selects RX8 yX8_place yX8_place, Cond.code yX8_place cX8_place 2 (some .int), Cond.constant RX8 58 (50625), Cond.methodLink RX8 66 yX8_leastOf, Cond.instanceMethod yX8_leastOf, Cond.selects RX8 yX8_leastOf yX8_leastOf, Cond.code yX8_leastOf cX8_leastOf 6 (some .int), Cond.methodLink RX8 73 yX8_through, Cond.instanceMethod yX8_through, Cond.selects RX8 yX8_through yX8_through, Cond.code yX8_through cX8_through 6 (some .int), Cond.methodLink RX8 70 yX8_price]
def wsX8_search_r2 : List Cond := [Cond.instanceMethod yX8_price, Cond.selects RX8 yX8_price yX8_price, Cond.code yX8_price cX8_price 7 (some .int), Cond.fieldLink RX8 25 "VoiceRowsModel" "order" "[I", Cond.fieldLink RX8 22 "VoiceRowsModel" "weights" "[I", Cond.fieldLink RX8 16 "VoiceRowsModel" "pitch" "[I", Cond.fieldLink RX8 7 "VoiceRowsModel" "from" "[I", Cond.fieldLink RX8 13 "VoiceRowsModel" "to" "[I", Cond.methodLink RX8 59 yX8_together, Cond.instanceMethod yX8_together, Cond.selects RX8 yX8_together yX8_together, Cond.code yX8_together cX8_together 3 (some .boolean)]
def wsX8_search : List Cond := .code yX8_search cX8_search 6 (some .int) :: ((wsX8_search_r1 ++ wsX8_search_r2) ++ wsX80)
def wsX8_least_r1 : List Cond := [Cond.fieldLink RX8 38 "VoiceRowsModel" "notes" "I", Cond.constant RX8 62 (2000000000), Cond.methodLink RX8 80 yX8_search, Cond.instanceMethod yX8_search, Cond.selects RX8 yX8_search yX8_search, Cond.initialized RX8, Cond.code yX8_search cX8_search 6 (some .int), Cond.fieldLink RX8 31 "VoiceRowsModel" "last" "[I", Cond.fieldLink RX8 35 "VoiceRowsModel" "rest" "[I", Cond.fieldLink RX8 28 "VoiceRowsModel" "given" "[I", Cond.methodLink RX8 76 yX8_level, Cond.instanceMethod yX8_level, Cond.selects RX8 yX8_level yX8_level, Cond.code yX8_level cX8_level 8 none, Cond.methodLink RX8 63 yX8_place, Cond.instanceMethod yX8_place, Cond.selects RX8 yX8_place yX8_place, Cond.code yX8_place cX8_place 2 (some .int), Cond.constant RX8 58 (50625), Cond.methodLink RX8 66 yX8_leastOf, Cond.instanceMethod yX8_leastOf, Cond.selects RX8 yX8_leastOf yX8_leastOf, Cond.code yX8_leastOf cX8_leastOf 6 (some .int), Cond.methodLink RX8 73 yX8_through]
def wsX8_least_r2 : List Cond := [Cond.instanceMethod yX8_through, Cond.selects RX8 yX8_through yX8_through, Cond.code yX8_through cX8_through 6 (some .int), Cond.methodLink RX8 70 yX8_price, Cond.instanceMethod yX8_price, Cond.selects RX8 yX8_price yX8_price, Cond.code yX8_price cX8_price 7 (some .int), Cond.fieldLink RX8 25 "VoiceRowsModel" "order" "[I", Cond.fieldLink RX8 22 "VoiceRowsModel" "weights" "[I", Cond.fieldLink RX8 16 "VoiceRowsModel" "pitch" "[I", Cond.fieldLink RX8 7 "VoiceRowsModel" "from" "[I", Cond.fieldLink RX8 13 "VoiceRowsModel" "to" "[I", Cond.methodLink RX8 59 yX8_together, Cond.instanceMethod yX8_together, Cond.selects RX8 yX8_together yX8_together, Cond.code yX8_together cX8_together 3 (some .boolean)]
def wsX8_least : List Cond := .code yX8_least cX8_least 3 (some .int) :: ((wsX8_least_r1 ++ wsX8_least_r2) ++ wsX80)
def wsX8_give : List Cond := .code yX8_give cX8_give 2 none :: ([.fieldLink RX8 38 "VoiceRowsModel" "notes" "I", .fieldLink RX8 19 "VoiceRowsModel" "voice" "[I", .fieldLink RX8 25 "VoiceRowsModel" "order" "[I", .fieldLink RX8 28 "VoiceRowsModel" "given" "[I"] ++ wsX80)
def wsX8_find_r1 : List Cond := [Cond.methodLink RX8 83 yX8_least, Cond.instanceMethod yX8_least, Cond.selects RX8 yX8_least yX8_least, Cond.initialized RX8, Cond.code yX8_least cX8_least 3 (some .int), Cond.fieldLink RX8 38 "VoiceRowsModel" "notes" "I", Cond.constant RX8 62 (2000000000), Cond.methodLink RX8 80 yX8_search, Cond.instanceMethod yX8_search, Cond.selects RX8 yX8_search yX8_search, Cond.code yX8_search cX8_search 6 (some .int), Cond.fieldLink RX8 31 "VoiceRowsModel" "last" "[I", Cond.fieldLink RX8 35 "VoiceRowsModel" "rest" "[I", Cond.fieldLink RX8 28 "VoiceRowsModel" "given" "[I", Cond.methodLink RX8 76 yX8_level, Cond.instanceMethod yX8_level, Cond.selects RX8 yX8_level yX8_level, Cond.code yX8_level cX8_level 8 none, Cond.methodLink RX8 63 yX8_place, Cond.instanceMethod yX8_place, Cond.selects RX8 yX8_place yX8_place, Cond.code yX8_place cX8_place 2 (some .int), Cond.constant RX8 58 (50625), Cond.methodLink RX8 66 yX8_leastOf]
def wsX8_find_r2 : List Cond := [Cond.instanceMethod yX8_leastOf, Cond.selects RX8 yX8_leastOf yX8_leastOf, Cond.code yX8_leastOf cX8_leastOf 6 (some .int), Cond.methodLink RX8 73 yX8_through, Cond.instanceMethod yX8_through, Cond.selects RX8 yX8_through yX8_through, Cond.code yX8_through cX8_through 6 (some .int), Cond.methodLink RX8 70 yX8_price, Cond.instanceMethod yX8_price, Cond.selects RX8 yX8_price yX8_price, Cond.code yX8_price cX8_price 7 (some .int), Cond.fieldLink RX8 25 "VoiceRowsModel" "order" "[I", Cond.fieldLink RX8 22 "VoiceRowsModel" "weights" "[I", Cond.fieldLink RX8 16 "VoiceRowsModel" "pitch" "[I", Cond.fieldLink RX8 7 "VoiceRowsModel" "from" "[I", Cond.fieldLink RX8 13 "VoiceRowsModel" "to" "[I", Cond.methodLink RX8 59 yX8_together, Cond.instanceMethod yX8_together, Cond.selects RX8 yX8_together yX8_together, Cond.code yX8_together cX8_together 3 (some .boolean), Cond.methodLink RX8 86 yX8_give, Cond.instanceMethod yX8_give, Cond.selects RX8 yX8_give yX8_give, Cond.code yX8_give cX8_give 2 none]
def wsX8_find_r3 : List Cond := [Cond.fieldLink RX8 19 "VoiceRowsModel" "voice" "[I"]
def wsX8_find : List Cond := .code yX8_find cX8_find 3 (some .int) :: ((wsX8_find_r1 ++ (wsX8_find_r2 ++ wsX8_find_r3)) ++ wsX80)
def wsX8_along : List Cond := .code yX8_along cX8_along 7 (some .int) :: ([.fieldLink RX8 31 "VoiceRowsModel" "last" "[I", .fieldLink RX8 38 "VoiceRowsModel" "notes" "I", .constant RX8 62 (2000000000), .fieldLink RX8 28 "VoiceRowsModel" "given" "[I", .methodLink RX8 70 yX8_price, .instanceMethod yX8_price, .selects RX8 yX8_price yX8_price, .initialized RX8, .code yX8_price cX8_price 7 (some .int), .fieldLink RX8 25 "VoiceRowsModel" "order" "[I", .fieldLink RX8 22 "VoiceRowsModel" "weights" "[I", .fieldLink RX8 16 "VoiceRowsModel" "pitch" "[I", .fieldLink RX8 7 "VoiceRowsModel" "from" "[I", .fieldLink RX8 13 "VoiceRowsModel" "to" "[I", .methodLink RX8 59 yX8_together, .instanceMethod yX8_together, .selects RX8 yX8_together yX8_together, .code yX8_together cX8_together 3 (some .boolean), .methodLink RX8 86 yX8_give, .instanceMethod yX8_give, .selects RX8 yX8_give yX8_give, .code yX8_give cX8_give 2 none, .fieldLink RX8 19 "VoiceRowsModel" "voice" "[I"] ++ wsX80)
def wsX8_clashes : List Cond := .code yX8_clashes cX8_clashes 4 (some .int) :: ([.fieldLink RX8 38 "VoiceRowsModel" "notes" "I", .fieldLink RX8 19 "VoiceRowsModel" "voice" "[I", .methodLink RX8 59 yX8_together, .instanceMethod yX8_together, .selects RX8 yX8_together yX8_together, .initialized RX8, .code yX8_together cX8_together 3 (some .boolean), .fieldLink RX8 7 "VoiceRowsModel" "from" "[I", .fieldLink RX8 13 "VoiceRowsModel" "to" "[I"] ++ wsX80)
def wsX8_isWhole : List Cond := .code yX8_isWhole cX8_isWhole 3 (some .boolean) :: ([.fieldLink RX8 38 "VoiceRowsModel" "notes" "I", .fieldLink RX8 19 "VoiceRowsModel" "voice" "[I", .methodLink RX8 89 yX8_clashes, .instanceMethod yX8_clashes, .selects RX8 yX8_clashes yX8_clashes, .initialized RX8, .code yX8_clashes cX8_clashes 4 (some .int), .methodLink RX8 59 yX8_together, .instanceMethod yX8_together, .selects RX8 yX8_together yX8_together, .code yX8_together cX8_together 3 (some .boolean), .fieldLink RX8 7 "VoiceRowsModel" "from" "[I", .fieldLink RX8 13 "VoiceRowsModel" "to" "[I"] ++ wsX80)
def wsX8_nextOf : List Cond := .code yX8_nextOf cX8_nextOf 4 (some .int) :: ([.fieldLink RX8 38 "VoiceRowsModel" "notes" "I", .fieldLink RX8 19 "VoiceRowsModel" "voice" "[I", .fieldLink RX8 25 "VoiceRowsModel" "order" "[I", .methodLink RX8 47 yX8_rank, .instanceMethod yX8_rank, .selects RX8 yX8_rank yX8_rank, .initialized RX8, .code yX8_rank cX8_rank 4 (some .int), .methodLink RX8 43 yX8_ahead, .instanceMethod yX8_ahead, .selects RX8 yX8_ahead yX8_ahead, .code yX8_ahead cX8_ahead 3 (some .boolean), .fieldLink RX8 7 "VoiceRowsModel" "from" "[I", .fieldLink RX8 16 "VoiceRowsModel" "pitch" "[I"] ++ wsX80)
def wsX8_size : List Cond := .code yX8_size cX8_size 4 (some .int) :: ([.fieldLink RX8 38 "VoiceRowsModel" "notes" "I", .fieldLink RX8 19 "VoiceRowsModel" "voice" "[I"] ++ wsX80)
def wsX8_used : List Cond := .code yX8_used cX8_used 3 (some .int) :: ([.methodLink RX8 92 yX8_size, .instanceMethod yX8_size, .selects RX8 yX8_size yX8_size, .initialized RX8, .code yX8_size cX8_size 4 (some .int), .fieldLink RX8 38 "VoiceRowsModel" "notes" "I", .fieldLink RX8 19 "VoiceRowsModel" "voice" "[I"] ++ wsX80)
def wsX8_isPair : List Cond := .code yX8_isPair cX8_isPair 4 (some .boolean) :: ([.fieldLink RX8 19 "VoiceRowsModel" "voice" "[I", .fieldLink RX8 16 "VoiceRowsModel" "pitch" "[I", .fieldLink RX8 7 "VoiceRowsModel" "from" "[I", .fieldLink RX8 13 "VoiceRowsModel" "to" "[I", .methodLink RX8 59 yX8_together, .instanceMethod yX8_together, .selects RX8 yX8_together yX8_together, .initialized RX8, .code yX8_together cX8_together 3 (some .boolean)] ++ wsX80)
def wsX8_pairOf : List Cond := .code yX8_pairOf cX8_pairOf 7 (some .int) :: ([.fieldLink RX8 38 "VoiceRowsModel" "notes" "I", .fieldLink RX8 25 "VoiceRowsModel" "order" "[I", .methodLink RX8 128 yX8_isPair, .instanceMethod yX8_isPair, .selects RX8 yX8_isPair yX8_isPair, .initialized RX8, .code yX8_isPair cX8_isPair 4 (some .boolean), .fieldLink RX8 19 "VoiceRowsModel" "voice" "[I", .fieldLink RX8 16 "VoiceRowsModel" "pitch" "[I", .fieldLink RX8 7 "VoiceRowsModel" "from" "[I", .fieldLink RX8 13 "VoiceRowsModel" "to" "[I", .methodLink RX8 59 yX8_together, .instanceMethod yX8_together, .selects RX8 yX8_together yX8_together, .code yX8_together cX8_together 3 (some .boolean)] ++ wsX80)
def wsX8_pairs : List Cond := .code yX8_pairs cX8_pairs 2 (some .int) :: ([.methodLink RX8 131 yX8_pairOf, .instanceMethod yX8_pairOf, .selects RX8 yX8_pairOf yX8_pairOf, .initialized RX8, .code yX8_pairOf cX8_pairOf 7 (some .int), .fieldLink RX8 38 "VoiceRowsModel" "notes" "I", .fieldLink RX8 25 "VoiceRowsModel" "order" "[I", .methodLink RX8 128 yX8_isPair, .instanceMethod yX8_isPair, .selects RX8 yX8_isPair yX8_isPair, .code yX8_isPair cX8_isPair 4 (some .boolean), .fieldLink RX8 19 "VoiceRowsModel" "voice" "[I", .fieldLink RX8 16 "VoiceRowsModel" "pitch" "[I", .fieldLink RX8 7 "VoiceRowsModel" "from" "[I", .fieldLink RX8 13 "VoiceRowsModel" "to" "[I", .methodLink RX8 59 yX8_together, .instanceMethod yX8_together, .selects RX8 yX8_together yX8_together, .code yX8_together cX8_together 3 (some .boolean)] ++ wsX80)
def wsX8_cost_r1 : List Cond := [Cond.fieldLink RX8 38 "VoiceRowsModel" "notes" "I", Cond.fieldLink RX8 16 "VoiceRowsModel" "pitch" "[I", Cond.fieldLink RX8 7 "VoiceRowsModel" "from" "[I", Cond.fieldLink RX8 13 "VoiceRowsModel" "to" "[I", Cond.fieldLink RX8 22 "VoiceRowsModel" "weights" "[I", Cond.methodLink RX8 95 yX8_isWhole, Cond.instanceMethod yX8_isWhole, Cond.selects RX8 yX8_isWhole yX8_isWhole, Cond.initialized RX8, Cond.code yX8_isWhole cX8_isWhole 3 (some .boolean), Cond.fieldLink RX8 19 "VoiceRowsModel" "voice" "[I", Cond.methodLink RX8 89 yX8_clashes, Cond.instanceMethod yX8_clashes, Cond.selects RX8 yX8_clashes yX8_clashes, Cond.code yX8_clashes cX8_clashes 4 (some .int), Cond.methodLink RX8 59 yX8_together, Cond.instanceMethod yX8_together, Cond.selects RX8 yX8_together yX8_together, Cond.code yX8_together cX8_together 3 (some .boolean), Cond.methodLink RX8 99 yX8_nextOf, Cond.instanceMethod yX8_nextOf, Cond.selects RX8 yX8_nextOf yX8_nextOf, Cond.code yX8_nextOf cX8_nextOf 4 (some .int), Cond.fieldLink RX8 25 "VoiceRowsModel" "order" "[I"]
def wsX8_cost_r2 : List Cond := [Cond.methodLink RX8 47 yX8_rank, Cond.instanceMethod yX8_rank, Cond.selects RX8 yX8_rank yX8_rank, Cond.code yX8_rank cX8_rank 4 (some .int), Cond.methodLink RX8 43 yX8_ahead, Cond.instanceMethod yX8_ahead, Cond.selects RX8 yX8_ahead yX8_ahead, Cond.code yX8_ahead cX8_ahead 3 (some .boolean), Cond.methodLink RX8 102 yX8_pairs, Cond.instanceMethod yX8_pairs, Cond.selects RX8 yX8_pairs yX8_pairs, Cond.code yX8_pairs cX8_pairs 2 (some .int), Cond.methodLink RX8 131 yX8_pairOf, Cond.instanceMethod yX8_pairOf, Cond.selects RX8 yX8_pairOf yX8_pairOf, Cond.code yX8_pairOf cX8_pairOf 7 (some .int), Cond.methodLink RX8 128 yX8_isPair, Cond.instanceMethod yX8_isPair, Cond.selects RX8 yX8_isPair yX8_isPair, Cond.code yX8_isPair cX8_isPair 4 (some .boolean), Cond.methodLink RX8 105 yX8_used, Cond.instanceMethod yX8_used, Cond.selects RX8 yX8_used yX8_used, Cond.code yX8_used cX8_used 3 (some .int)]
def wsX8_cost_r3 : List Cond := [Cond.methodLink RX8 92 yX8_size, Cond.instanceMethod yX8_size, Cond.selects RX8 yX8_size yX8_size, Cond.code yX8_size cX8_size 4 (some .int)]
def wsX8_cost : List Cond := .code yX8_cost cX8_cost 6 (some .int) :: ((wsX8_cost_r1 ++ (wsX8_cost_r2 ++ wsX8_cost_r3)) ++ wsX80)
def wsX8_of_r1 : List Cond := [Cond.fieldLink RX8 38 "VoiceRowsModel" "notes" "I", Cond.fieldLink RX8 7 "VoiceRowsModel" "from" "[I", Cond.fieldLink RX8 13 "VoiceRowsModel" "to" "[I", Cond.fieldLink RX8 16 "VoiceRowsModel" "pitch" "[I", Cond.fieldLink RX8 19 "VoiceRowsModel" "voice" "[I", Cond.methodLink RX8 47 yX8_rank, Cond.instanceMethod yX8_rank, Cond.selects RX8 yX8_rank yX8_rank, Cond.initialized RX8, Cond.code yX8_rank cX8_rank 4 (some .int), Cond.methodLink RX8 43 yX8_ahead, Cond.instanceMethod yX8_ahead, Cond.selects RX8 yX8_ahead yX8_ahead, Cond.code yX8_ahead cX8_ahead 3 (some .boolean), Cond.methodLink RX8 99 yX8_nextOf, Cond.instanceMethod yX8_nextOf, Cond.selects RX8 yX8_nextOf yX8_nextOf, Cond.code yX8_nextOf cX8_nextOf 4 (some .int), Cond.fieldLink RX8 25 "VoiceRowsModel" "order" "[I", Cond.methodLink RX8 89 yX8_clashes, Cond.instanceMethod yX8_clashes, Cond.selects RX8 yX8_clashes yX8_clashes, Cond.code yX8_clashes cX8_clashes 4 (some .int), Cond.methodLink RX8 59 yX8_together]
def wsX8_of_r2 : List Cond := [Cond.instanceMethod yX8_together, Cond.selects RX8 yX8_together yX8_together, Cond.code yX8_together cX8_together 3 (some .boolean)]
def wsX8_of : List Cond := .code yX8_of cX8_of 3 (some .int) :: ((wsX8_of_r1 ++ wsX8_of_r2) ++ wsX80)
def wsX8_ranked : List Cond := .code yX8_ranked cX8_ranked 2 (some .int) :: ([.fieldLink RX8 38 "VoiceRowsModel" "notes" "I", .fieldLink RX8 25 "VoiceRowsModel" "order" "[I"] ++ wsX80)
def wsX8_at : List Cond := .code yX8_at cX8_at 4 (some .int) :: ([.fieldLink RX8 38 "VoiceRowsModel" "notes" "I", .fieldLink RX8 7 "VoiceRowsModel" "from" "[I", .fieldLink RX8 13 "VoiceRowsModel" "to" "[I"] ++ wsX80)
def wsX8_sounding : List Cond := .code yX8_sounding cX8_sounding 2 (some .int) :: ([.constant RX8 42 (100000), .methodLink RX8 109 yX8_at, .instanceMethod yX8_at, .selects RX8 yX8_at yX8_at, .initialized RX8, .code yX8_at cX8_at 4 (some .int), .fieldLink RX8 38 "VoiceRowsModel" "notes" "I", .fieldLink RX8 7 "VoiceRowsModel" "from" "[I", .fieldLink RX8 13 "VoiceRowsModel" "to" "[I"] ++ wsX80)
def wsX8_needed : List Cond := .code yX8_needed cX8_needed 3 (some .int) :: ([.fieldLink RX8 38 "VoiceRowsModel" "notes" "I", .fieldLink RX8 7 "VoiceRowsModel" "from" "[I", .methodLink RX8 109 yX8_at, .instanceMethod yX8_at, .selects RX8 yX8_at yX8_at, .initialized RX8, .code yX8_at cX8_at 4 (some .int), .fieldLink RX8 13 "VoiceRowsModel" "to" "[I"] ++ wsX80)
def wsX8_theEnd : List Cond := .code yX8_theEnd cX8_theEnd 3 (some .int) :: ([.fieldLink RX8 38 "VoiceRowsModel" "notes" "I", .fieldLink RX8 13 "VoiceRowsModel" "to" "[I"] ++ wsX80)
def wsX8_isOf : List Cond := .code yX8_isOf cX8_isOf 3 (some .boolean) :: ([.fieldLink RX8 19 "VoiceRowsModel" "voice" "[I"] ++ wsX80)
def wsX8_silence : List Cond := .code yX8_silence cX8_silence 6 (some .int) :: ([.fieldLink RX8 38 "VoiceRowsModel" "notes" "I", .fieldLink RX8 7 "VoiceRowsModel" "from" "[I", .fieldLink RX8 13 "VoiceRowsModel" "to" "[I", .methodLink RX8 112 yX8_isOf, .instanceMethod yX8_isOf, .selects RX8 yX8_isOf yX8_isOf, .initialized RX8, .code yX8_isOf cX8_isOf 3 (some .boolean), .fieldLink RX8 19 "VoiceRowsModel" "voice" "[I"] ++ wsX80)
def wsX8_sound : List Cond := .code yX8_sound cX8_sound 5 (some .int) :: ([.fieldLink RX8 38 "VoiceRowsModel" "notes" "I", .fieldLink RX8 7 "VoiceRowsModel" "from" "[I", .methodLink RX8 115 yX8_theEnd, .instanceMethod yX8_theEnd, .selects RX8 yX8_theEnd yX8_theEnd, .initialized RX8, .code yX8_theEnd cX8_theEnd 3 (some .int), .fieldLink RX8 13 "VoiceRowsModel" "to" "[I", .methodLink RX8 112 yX8_isOf, .instanceMethod yX8_isOf, .selects RX8 yX8_isOf yX8_isOf, .code yX8_isOf cX8_isOf 3 (some .boolean), .fieldLink RX8 19 "VoiceRowsModel" "voice" "[I"] ++ wsX80)
def wsX8_restOf : List Cond := .code yX8_restOf cX8_restOf 8 (some .int) :: ([.methodLink RX8 115 yX8_theEnd, .instanceMethod yX8_theEnd, .selects RX8 yX8_theEnd yX8_theEnd, .initialized RX8, .code yX8_theEnd cX8_theEnd 3 (some .int), .fieldLink RX8 38 "VoiceRowsModel" "notes" "I", .fieldLink RX8 13 "VoiceRowsModel" "to" "[I", .methodLink RX8 118 yX8_silence, .instanceMethod yX8_silence, .selects RX8 yX8_silence yX8_silence, .code yX8_silence cX8_silence 6 (some .int), .fieldLink RX8 7 "VoiceRowsModel" "from" "[I", .methodLink RX8 112 yX8_isOf, .instanceMethod yX8_isOf, .selects RX8 yX8_isOf yX8_isOf, .code yX8_isOf cX8_isOf 3 (some .boolean), .fieldLink RX8 19 "VoiceRowsModel" "voice" "[I", .methodLink RX8 121 yX8_sound, .instanceMethod yX8_sound, .selects RX8 yX8_sound yX8_sound, .code yX8_sound cX8_sound 5 (some .int)] ++ wsX80)
def wsX8_rests_r1 : List Cond := [Cond.methodLink RX8 124 yX8_restOf, Cond.instanceMethod yX8_restOf, Cond.selects RX8 yX8_restOf yX8_restOf, Cond.initialized RX8, Cond.code yX8_restOf cX8_restOf 8 (some .int), Cond.methodLink RX8 115 yX8_theEnd, Cond.instanceMethod yX8_theEnd, Cond.selects RX8 yX8_theEnd yX8_theEnd, Cond.code yX8_theEnd cX8_theEnd 3 (some .int), Cond.fieldLink RX8 38 "VoiceRowsModel" "notes" "I", Cond.fieldLink RX8 13 "VoiceRowsModel" "to" "[I", Cond.methodLink RX8 118 yX8_silence, Cond.instanceMethod yX8_silence, Cond.selects RX8 yX8_silence yX8_silence, Cond.code yX8_silence cX8_silence 6 (some .int), Cond.fieldLink RX8 7 "VoiceRowsModel" "from" "[I", Cond.methodLink RX8 112 yX8_isOf, Cond.instanceMethod yX8_isOf, Cond.selects RX8 yX8_isOf yX8_isOf, Cond.code yX8_isOf cX8_isOf 3 (some .boolean), Cond.fieldLink RX8 19 "VoiceRowsModel" "voice" "[I", Cond.methodLink RX8 121 yX8_sound, Cond.instanceMethod yX8_sound, Cond.selects RX8 yX8_sound yX8_sound]
def wsX8_rests_r2 : List Cond := [Cond.code yX8_sound cX8_sound 5 (some .int)]
def wsX8_rests : List Cond := .code yX8_rests cX8_rests 2 (some .int) :: ((wsX8_rests_r1 ++ wsX8_rests_r2) ++ wsX80)
def wsX8_rest_r1 : List Cond := [Cond.methodLink RX8 124 yX8_restOf, Cond.instanceMethod yX8_restOf, Cond.selects RX8 yX8_restOf yX8_restOf, Cond.initialized RX8, Cond.code yX8_restOf cX8_restOf 8 (some .int), Cond.methodLink RX8 115 yX8_theEnd, Cond.instanceMethod yX8_theEnd, Cond.selects RX8 yX8_theEnd yX8_theEnd, Cond.code yX8_theEnd cX8_theEnd 3 (some .int), Cond.fieldLink RX8 38 "VoiceRowsModel" "notes" "I", Cond.fieldLink RX8 13 "VoiceRowsModel" "to" "[I", Cond.methodLink RX8 118 yX8_silence, Cond.instanceMethod yX8_silence, Cond.selects RX8 yX8_silence yX8_silence, Cond.code yX8_silence cX8_silence 6 (some .int), Cond.fieldLink RX8 7 "VoiceRowsModel" "from" "[I", Cond.methodLink RX8 112 yX8_isOf, Cond.instanceMethod yX8_isOf, Cond.selects RX8 yX8_isOf yX8_isOf, Cond.code yX8_isOf cX8_isOf 3 (some .boolean), Cond.fieldLink RX8 19 "VoiceRowsModel" "voice" "[I", Cond.methodLink RX8 121 yX8_sound, Cond.instanceMethod yX8_sound, Cond.selects RX8 yX8_sound yX8_sound]
def wsX8_rest_r2 : List Cond := [Cond.code yX8_sound cX8_sound 5 (some .int)]
def wsX8_rest : List Cond := .code yX8_rest cX8_rest 4 (some .int) :: ((wsX8_rest_r1 ++ wsX8_rest_r2) ++ wsX80)
def wsX8_pair : List Cond := .code yX8_pair cX8_pair 4 (some .int) :: ([.methodLink RX8 131 yX8_pairOf, .instanceMethod yX8_pairOf, .selects RX8 yX8_pairOf yX8_pairOf, .initialized RX8, .code yX8_pairOf cX8_pairOf 7 (some .int), .fieldLink RX8 38 "VoiceRowsModel" "notes" "I", .fieldLink RX8 25 "VoiceRowsModel" "order" "[I", .methodLink RX8 128 yX8_isPair, .instanceMethod yX8_isPair, .selects RX8 yX8_isPair yX8_isPair, .code yX8_isPair cX8_isPair 4 (some .boolean), .fieldLink RX8 19 "VoiceRowsModel" "voice" "[I", .fieldLink RX8 16 "VoiceRowsModel" "pitch" "[I", .fieldLink RX8 7 "VoiceRowsModel" "from" "[I", .fieldLink RX8 13 "VoiceRowsModel" "to" "[I", .methodLink RX8 59 yX8_together, .instanceMethod yX8_together, .selects RX8 yX8_together yX8_together, .code yX8_together cX8_together 3 (some .boolean)] ++ wsX80)
def wsX8_voice : List Cond := .code yX8_voice cX8_voice 6 (some .int) :: ([.fieldLink RX8 38 "VoiceRowsModel" "notes" "I", .fieldLink RX8 19 "VoiceRowsModel" "voice" "[I", .fieldLink RX8 16 "VoiceRowsModel" "pitch" "[I", .methodLink RX8 92 yX8_size, .instanceMethod yX8_size, .selects RX8 yX8_size yX8_size, .initialized RX8, .code yX8_size cX8_size 4 (some .int)] ++ wsX80)
def wsX8_told_r1 : List Cond := [Cond.fieldLink RX8 38 "VoiceRowsModel" "notes" "I", Cond.methodLink RX8 92 yX8_size, Cond.instanceMethod yX8_size, Cond.selects RX8 yX8_size yX8_size, Cond.initialized RX8, Cond.code yX8_size cX8_size 4 (some .int), Cond.fieldLink RX8 19 "VoiceRowsModel" "voice" "[I", Cond.methodLink RX8 115 yX8_theEnd, Cond.instanceMethod yX8_theEnd, Cond.selects RX8 yX8_theEnd yX8_theEnd, Cond.code yX8_theEnd cX8_theEnd 3 (some .int), Cond.fieldLink RX8 13 "VoiceRowsModel" "to" "[I", Cond.methodLink RX8 95 yX8_isWhole, Cond.instanceMethod yX8_isWhole, Cond.selects RX8 yX8_isWhole yX8_isWhole, Cond.code yX8_isWhole cX8_isWhole 3 (some .boolean), Cond.methodLink RX8 89 yX8_clashes, Cond.instanceMethod yX8_clashes, Cond.selects RX8 yX8_clashes yX8_clashes, Cond.code yX8_clashes cX8_clashes 4 (some .int), Cond.methodLink RX8 59 yX8_together, Cond.instanceMethod yX8_together, Cond.selects RX8 yX8_together yX8_together, Cond.code yX8_together cX8_together 3 (some .boolean)]
def wsX8_told_r2 : List Cond := [Cond.fieldLink RX8 7 "VoiceRowsModel" "from" "[I", Cond.methodLink RX8 105 yX8_used, Cond.instanceMethod yX8_used, Cond.selects RX8 yX8_used yX8_used, Cond.code yX8_used cX8_used 3 (some .int)]
def wsX8_told : List Cond := .code yX8_told cX8_told 2 (some .int) :: ((wsX8_told_r1 ++ wsX8_told_r2) ++ wsX80)
def wsJ9_abs_0f7a4 : List Cond := .code yJ9_abs_0f7a4 cJ9_abs_0f7a4 1 (some .int) :: ([])
def wsJ9_max_7cf53 : List Cond := .code yJ9_max_7cf53 cJ9_max_7cf53 2 (some .int) :: ([])
def wsJ9_min_7cf53 : List Cond := .code yJ9_min_7cf53 cJ9_min_7cf53 2 (some .int) :: ([])
def wsL_law_r1 : List Cond := [Cond.classLink RL 7 RX7, Cond.instantiable RX7 7, Cond.initialized RX7, Cond.classLink RL 10 RX8, Cond.instantiable RX8 10, Cond.initialized RX8, Cond.methodLink RL 9 yX7_init, Cond.instanceMethod yX7_init, Cond.code yX7_init cX7_init 2 none, Cond.methodLink RX7 1 objectInit, Cond.instanceMethod objectInit, Cond.code objectInit ⟨#[0xb1]⟩ 1 none, Cond.classLink RX7 7 RX6, Cond.instantiable RX6 7, Cond.initialized RX6, Cond.fieldLink RX7 10 "VoiceRows" "score" "LVoiceRows$Score;", Cond.fieldLink RX7 16 "VoiceRows" "FIRST_WEIGHTS" "[I", Cond.methodLink RX7 20 ⟨"[I", "clone", "()Ljava/lang/Object;"⟩, Cond.sameMethod "[I" "java/lang/Object" "clone" "()Ljava/lang/Object;", Cond.native ⟨"java/lang/Object", "clone", "()Ljava/lang/Object;"⟩, Cond.instanceMethod ⟨"java/lang/Object", "clone", "()Ljava/lang/Object;"⟩, Cond.selects "[I" ⟨"[I", "clone", "()Ljava/lang/Object;"⟩ ⟨"java/lang/Object", "clone", "()Ljava/lang/Object;"⟩, Cond.classLink RX7 21 "[I", Cond.fieldLink RX7 25 "VoiceRows" "weights" "[I"]
def wsL_law_r2 : List Cond := [Cond.classLink RX7 28 RX5, Cond.instantiable RX5 4, Cond.initialized RX5, Cond.fieldLink RX7 33 "VoiceRows" "restRows" "LVoiceRows$RestRows;", Cond.classLink RX7 37 RX4, Cond.instantiable RX4 3, Cond.initialized RX4, Cond.fieldLink RX7 40 "VoiceRows" "pairRows" "LVoiceRows$PairRows;", Cond.classLink RX7 44 RX0, Cond.instantiable RX0 3, Cond.initialized RX0, Cond.fieldLink RX7 49 "VoiceRows" "bill" "LVoiceRows$Bill;", Cond.classLink RX7 53 RX3, Cond.instantiable RX3 3, Cond.initialized RX3, Cond.classLink RX7 58 RX1, Cond.instantiable RX1 5, Cond.initialized RX1, Cond.fieldLink RX7 63 "VoiceRows" "finder" "LVoiceRows$Finder;", Cond.classLink RX7 67 RX2, Cond.instantiable RX2 3, Cond.initialized RX2, Cond.fieldLink RX7 70 "VoiceRows" "goer" "LVoiceRows$Goer;", Cond.instanceMethod yX6_init]
def wsL_law_r3 : List Cond := [Cond.code yX6_init cX6_init 1 none, Cond.methodLink RX6 3 objectInit, Cond.arrayClass .int, Cond.fieldLink RX6 9 "VoiceRows$Score" "from" "[I", Cond.fieldLink RX6 15 "VoiceRows$Score" "to" "[I", Cond.fieldLink RX6 18 "VoiceRows$Score" "pitch" "[I", Cond.fieldLink RX6 21 "VoiceRows$Score" "voice" "[I", Cond.fieldLink RX6 24 "VoiceRows$Score" "order" "[I", Cond.fieldLink RX6 27 "VoiceRows$Score" "rank" "[I", Cond.methodLink RX7 30 yX5_init, Cond.instanceMethod yX5_init, Cond.code yX5_init cX5_init 2 none, Cond.methodLink RX5 3 objectInit, Cond.fieldLink RX5 9 "VoiceRows$RestRows" "begin" "[I", Cond.fieldLink RX5 15 "VoiceRows$RestRows" "end" "[I", Cond.fieldLink RX5 18 "VoiceRows$RestRows" "score" "LVoiceRows$Score;", Cond.methodLink RX7 39 yX4_init, Cond.instanceMethod yX4_init, Cond.code yX4_init cX4_init 2 none, Cond.methodLink RX4 3 objectInit, Cond.fieldLink RX4 9 "VoiceRows$PairRows" "score" "LVoiceRows$Score;", Cond.methodLink RX7 46 yX0_init, Cond.instanceMethod yX0_init, Cond.code yX0_init cX0_init 4 none]
def wsL_law_r4 : List Cond := [Cond.methodLink RX0 3 objectInit, Cond.fieldLink RX0 9 "VoiceRows$Bill" "score" "LVoiceRows$Score;", Cond.fieldLink RX0 15 "VoiceRows$Bill" "weights" "[I", Cond.fieldLink RX0 19 "VoiceRows$Bill" "pairRows" "LVoiceRows$PairRows;", Cond.methodLink RX7 55 yX3_init, Cond.instanceMethod yX3_init, Cond.code yX3_init cX3_init 3 none, Cond.methodLink RX3 3 objectInit, Cond.fieldLink RX3 9 "VoiceRows$Lines" "last" "[I", Cond.fieldLink RX3 15 "VoiceRows$Lines" "score" "LVoiceRows$Score;", Cond.fieldLink RX3 19 "VoiceRows$Lines" "weights" "[I", Cond.methodLink RX7 60 yX1_init, Cond.instanceMethod yX1_init, Cond.code yX1_init cX1_init 3 none, Cond.methodLink RX1 3 objectInit, Cond.fieldLink RX1 9 "VoiceRows$Finder" "place" "[I", Cond.fieldLink RX1 15 "VoiceRows$Finder" "known" "[I", Cond.fieldLink RX1 18 "VoiceRows$Finder" "score" "LVoiceRows$Score;", Cond.fieldLink RX1 22 "VoiceRows$Finder" "lines" "LVoiceRows$Lines;", Cond.methodLink RX7 69 yX2_init, Cond.instanceMethod yX2_init, Cond.code yX2_init cX2_init 3 none, Cond.methodLink RX2 3 objectInit, Cond.fieldLink RX2 9 "VoiceRows$Goer" "chosen" "[I"]
def wsL_law_r5 : List Cond := [Cond.fieldLink RX2 15 "VoiceRows$Goer" "score" "LVoiceRows$Score;", Cond.fieldLink RX2 19 "VoiceRows$Goer" "lines" "LVoiceRows$Lines;", Cond.methodLink RL 12 yX8_init, Cond.instanceMethod yX8_init, Cond.code yX8_init cX8_init 1 none, Cond.methodLink RX8 1 objectInit, Cond.fieldLink RX8 7 "VoiceRowsModel" "from" "[I", Cond.fieldLink RX8 13 "VoiceRowsModel" "to" "[I", Cond.fieldLink RX8 16 "VoiceRowsModel" "pitch" "[I", Cond.fieldLink RX8 19 "VoiceRowsModel" "voice" "[I", Cond.fieldLink RX8 22 "VoiceRowsModel" "weights" "[I", Cond.fieldLink RX8 25 "VoiceRowsModel" "order" "[I", Cond.fieldLink RX8 28 "VoiceRowsModel" "given" "[I", Cond.fieldLink RX8 31 "VoiceRowsModel" "last" "[I", Cond.constant RX8 34 (759375), Cond.fieldLink RX8 35 "VoiceRowsModel" "rest" "[I", Cond.methodLink RL 13 yX7_clear, Cond.instanceMethod yX7_clear, Cond.selects RX7 yX7_clear yX7_clear, Cond.code yX7_clear cX7_clear 2 (some .int), Cond.fieldLink RX7 74 "VoiceRows$Score" "count" "I", Cond.methodLink RX7 78 arraycopyName, Cond.native arraycopyName, Cond.static arraycopyName]
def wsL_law_r6 : List Cond := [Cond.initialized "java/lang/System", Cond.methodLink RL 17 yX8_clear, Cond.instanceMethod yX8_clear, Cond.selects RX8 yX8_clear yX8_clear, Cond.code yX8_clear cX8_clear 2 (some .int), Cond.fieldLink RX8 38 "VoiceRowsModel" "notes" "I", Cond.methodLink RL 18 yX7_note, Cond.instanceMethod yX7_note, Cond.selects RX7 yX7_note yX7_note, Cond.code yX7_note cX7_note 4 (some .int), Cond.methodLink RX7 84 yX7_canSound, Cond.static yX7_canSound, Cond.code yX7_canSound cX7_canSound 3 (some .boolean), Cond.constant RX7 147 (100000), Cond.methodLink RX7 100 yX7_within, Cond.static yX7_within, Cond.code yX7_within cX7_within 3 (some .boolean), Cond.methodLink RX7 88 yX6_add, Cond.instanceMethod yX6_add, Cond.selects RX6 yX6_add yX6_add, Cond.code yX6_add cX6_add 5 (some .int), Cond.fieldLink RX6 30 "VoiceRows$Score" "count" "I", Cond.methodLink RX6 38 yX6_change, Cond.instanceMethod yX6_change]
def wsL_law_r7 : List Cond := [Cond.selects RX6 yX6_change yX6_change, Cond.code yX6_change cX6_change 5 none, Cond.methodLink RX6 42 yX6_sortOrder, Cond.instanceMethod yX6_sortOrder, Cond.selects RX6 yX6_sortOrder yX6_sortOrder, Cond.code yX6_sortOrder cX6_sortOrder 4 none, Cond.methodLink RX6 45 yX6_isBefore, Cond.instanceMethod yX6_isBefore, Cond.selects RX6 yX6_isBefore yX6_isBefore, Cond.code yX6_isBefore cX6_isBefore 3 (some .boolean), Cond.methodLink RL 22 yX8_note, Cond.instanceMethod yX8_note, Cond.selects RX8 yX8_note yX8_note, Cond.code yX8_note cX8_note 4 (some .int), Cond.methodLink RX8 51 yX8_isNote, Cond.static yX8_isNote, Cond.code yX8_isNote cX8_isNote 3 (some .boolean), Cond.constant RX8 42 (100000), Cond.methodLink RX8 55 yX8_sort, Cond.instanceMethod yX8_sort, Cond.selects RX8 yX8_sort yX8_sort, Cond.code yX8_sort cX8_sort 2 none, Cond.methodLink RX8 47 yX8_rank, Cond.instanceMethod yX8_rank]
def wsL_law_r8 : List Cond := [Cond.selects RX8 yX8_rank yX8_rank, Cond.code yX8_rank cX8_rank 4 (some .int), Cond.methodLink RX8 43 yX8_ahead, Cond.instanceMethod yX8_ahead, Cond.selects RX8 yX8_ahead yX8_ahead, Cond.code yX8_ahead cX8_ahead 3 (some .boolean), Cond.methodLink RL 23 yX7_move, Cond.instanceMethod yX7_move, Cond.selects RX7 yX7_move yX7_move, Cond.code yX7_move cX7_move 5 (some .int), Cond.methodLink RX7 92 yX6_has, Cond.instanceMethod yX6_has, Cond.selects RX6 yX6_has yX6_has, Cond.code yX6_has cX6_has 2 (some .boolean), Cond.methodLink RX7 96 yX6_change, Cond.methodLink RL 27 yX8_move, Cond.instanceMethod yX8_move, Cond.selects RX8 yX8_move yX8_move, Cond.code yX8_move cX8_move 5 (some .int), Cond.methodLink RL 28 yX7_weigh, Cond.instanceMethod yX7_weigh, Cond.selects RX7 yX7_weigh yX7_weigh, Cond.code yX7_weigh cX7_weigh 4 (some .int), Cond.methodLink RL 32 yX8_weigh]
def wsL_law_r9 : List Cond := [Cond.instanceMethod yX8_weigh, Cond.selects RX8 yX8_weigh yX8_weigh, Cond.code yX8_weigh cX8_weigh 4 (some .int), Cond.methodLink RL 33 yX7_put, Cond.instanceMethod yX7_put, Cond.selects RX7 yX7_put yX7_put, Cond.code yX7_put cX7_put 4 (some .int), Cond.fieldLink RX7 103 "VoiceRows$Score" "voice" "[I", Cond.methodLink RL 36 yX8_put, Cond.instanceMethod yX8_put, Cond.selects RX8 yX8_put yX8_put, Cond.code yX8_put cX8_put 4 (some .int), Cond.methodLink RL 37 yX7_find, Cond.instanceMethod yX7_find, Cond.selects RX7 yX7_find yX7_find, Cond.code yX7_find cX7_find 3 (some .int), Cond.methodLink RX7 106 yX7_least, Cond.instanceMethod yX7_least, Cond.selects RX7 yX7_least yX7_least, Cond.code yX7_least cX7_least 2 (some .int), Cond.methodLink RX7 113 yX1_search, Cond.instanceMethod yX1_search, Cond.selects RX1 yX1_search yX1_search, Cond.code yX1_search cX1_search 2 (some .int)]
def wsL_law_r10 : List Cond := [Cond.fieldLink RX1 26 "VoiceRows$Finder" "voices" "I", Cond.methodLink RX1 30 yX1_makeStates, Cond.instanceMethod yX1_makeStates, Cond.selects RX1 yX1_makeStates yX1_makeStates, Cond.code yX1_makeStates cX1_makeStates 3 none, Cond.fieldLink RX1 42 "VoiceRows$Score" "count" "I", Cond.constant RX1 63 (38416), Cond.methodLink RX1 64 Lib.Math.max.name, Cond.static Lib.Math.max.name, Cond.initialized "java/lang/Math", Cond.code Lib.Math.max.name Lib.Math.max.code 2 (some .int), Cond.methodLink RX1 69 Lib.Math.min.name, Cond.static Lib.Math.min.name, Cond.code Lib.Math.min.name Lib.Math.min.code 2 (some .int), Cond.methodLink RX1 72 yJ7_fill_fda19, Cond.static yJ7_fill_fda19, Cond.initialized RJ7, Cond.code yJ7_fill_fda19 cJ7_fill_fda19 5 none, Cond.methodLink RJ7 13 yJ7_rangeCheck_23922, Cond.static yJ7_rangeCheck_23922, Cond.code yJ7_rangeCheck_23922 cJ7_rangeCheck_23922 3 none, Cond.methodLink RX1 33 yX3_empty, Cond.instanceMethod yX3_empty, Cond.selects RX3 yX3_empty yX3_empty]
def wsL_law_r11 : List Cond := [Cond.code yX3_empty cX3_empty 1 none, Cond.methodLink RX3 22 yJ7_fill_53178, Cond.static yJ7_fill_53178, Cond.code yJ7_fill_53178 cJ7_fill_53178 4 none, Cond.methodLink RX1 38 yX1_onward, Cond.instanceMethod yX1_onward, Cond.selects RX1 yX1_onward yX1_onward, Cond.code yX1_onward cX1_onward 6 (some .int), Cond.methodLink RX1 78 yX1_through, Cond.instanceMethod yX1_through, Cond.selects RX1 yX1_through yX1_through, Cond.code yX1_through cX1_through 9 (some .int), Cond.fieldLink RX1 47 "VoiceRows$Score" "order" "[I", Cond.fieldLink RX1 57 "VoiceRows$Lines" "last" "[I", Cond.methodLink RX1 81 yX3_added, Cond.instanceMethod yX3_added, Cond.selects RX3 yX3_added yX3_added, Cond.code yX3_added cX3_added 6 (some .int), Cond.fieldLink RX3 32 "VoiceRows$Score" "from" "[I", Cond.fieldLink RX3 37 "VoiceRows$Score" "to" "[I", Cond.fieldLink RX3 40 "VoiceRows$Score" "pitch" "[I", Cond.methodLink RX3 43 Lib.Math.abs.name, Cond.static Lib.Math.abs.name, Cond.code Lib.Math.abs.name Lib.Math.abs.code 1 (some .int)]
def wsL_law_r12 : List Cond := [Cond.methodLink RX3 28 yX3_crossed, Cond.instanceMethod yX3_crossed, Cond.selects RX3 yX3_crossed yX3_crossed, Cond.code yX3_crossed cX3_crossed 7 (some .int), Cond.methodLink RX1 53 yX1_stateBehind, Cond.instanceMethod yX1_stateBehind, Cond.selects RX1 yX1_stateBehind yX1_stateBehind, Cond.code yX1_stateBehind cX1_stateBehind 6 (some .int), Cond.fieldLink RX1 84 "VoiceRows$Score" "rank" "[I", Cond.methodLink RX7 110 yX1_giveFound, Cond.instanceMethod yX1_giveFound, Cond.selects RX1 yX1_giveFound yX1_giveFound, Cond.code yX1_giveFound cX1_giveFound 5 none, Cond.fieldLink RX1 60 "VoiceRows$Score" "voice" "[I", Cond.methodLink RX1 50 yX1_firstBest, Cond.instanceMethod yX1_firstBest, Cond.selects RX1 yX1_firstBest yX1_firstBest, Cond.code yX1_firstBest cX1_firstBest 6 (some .int), Cond.methodLink RL 41 yX8_find, Cond.instanceMethod yX8_find, Cond.selects RX8 yX8_find yX8_find, Cond.code yX8_find cX8_find 3 (some .int), Cond.methodLink RX8 83 yX8_least, Cond.instanceMethod yX8_least]
def wsL_law_r13 : List Cond := [Cond.selects RX8 yX8_least yX8_least, Cond.code yX8_least cX8_least 3 (some .int), Cond.constant RX8 62 (2000000000), Cond.methodLink RX8 80 yX8_search, Cond.instanceMethod yX8_search, Cond.selects RX8 yX8_search yX8_search, Cond.code yX8_search cX8_search 6 (some .int), Cond.methodLink RX8 76 yX8_level, Cond.instanceMethod yX8_level, Cond.selects RX8 yX8_level yX8_level, Cond.code yX8_level cX8_level 8 none, Cond.methodLink RX8 63 yX8_place, Cond.instanceMethod yX8_place, Cond.selects RX8 yX8_place yX8_place, Cond.code yX8_place cX8_place 2 (some .int), Cond.constant RX8 58 (50625), Cond.methodLink RX8 66 yX8_leastOf, Cond.instanceMethod yX8_leastOf, Cond.selects RX8 yX8_leastOf yX8_leastOf, Cond.code yX8_leastOf cX8_leastOf 6 (some .int), Cond.methodLink RX8 73 yX8_through, Cond.instanceMethod yX8_through, Cond.selects RX8 yX8_through yX8_through, Cond.code yX8_through cX8_through 6 (some .int)]
def wsL_law_r14 : List Cond := [Cond.methodLink RX8 70 yX8_price, Cond.instanceMethod yX8_price, Cond.selects RX8 yX8_price yX8_price, Cond.code yX8_price cX8_price 7 (some .int), Cond.methodLink RX8 59 yX8_together, Cond.instanceMethod yX8_together, Cond.selects RX8 yX8_together yX8_together, Cond.code yX8_together cX8_together 3 (some .boolean), Cond.methodLink RX8 86 yX8_give, Cond.instanceMethod yX8_give, Cond.selects RX8 yX8_give yX8_give, Cond.code yX8_give cX8_give 2 none, Cond.methodLink RL 42 yX7_least, Cond.methodLink RL 45 yX8_least, Cond.methodLink RL 46 yX7_along, Cond.instanceMethod yX7_along, Cond.selects RX7 yX7_along yX7_along, Cond.code yX7_along cX7_along 2 (some .int), Cond.methodLink RX7 116 yX2_go, Cond.instanceMethod yX2_go, Cond.selects RX2 yX2_go yX2_go, Cond.code yX2_go cX2_go 5 (some .boolean), Cond.fieldLink RX2 28 "VoiceRows$Score" "count" "I", Cond.fieldLink RX2 34 "VoiceRows$Score" "order" "[I"]
def wsL_law_r15 : List Cond := [Cond.fieldLink RX2 41 "VoiceRows$Lines" "last" "[I", Cond.fieldLink RX2 44 "VoiceRows$Score" "voice" "[I", Cond.methodLink RX2 47 arraycopyName, Cond.methodLink RX2 23 yX3_empty, Cond.methodLink RX2 37 yX2_cheapest, Cond.instanceMethod yX2_cheapest, Cond.selects RX2 yX2_cheapest yX2_cheapest, Cond.code yX2_cheapest cX2_cheapest 7 (some .int), Cond.methodLink RX2 53 yX3_added, Cond.methodLink RL 49 yX8_along, Cond.instanceMethod yX8_along, Cond.selects RX8 yX8_along yX8_along, Cond.code yX8_along cX8_along 7 (some .int), Cond.methodLink RL 50 yX7_cost, Cond.instanceMethod yX7_cost, Cond.selects RX7 yX7_cost yX7_cost, Cond.code yX7_cost cX7_cost 2 (some .int), Cond.methodLink RX7 119 yX6_isWhole, Cond.instanceMethod yX6_isWhole, Cond.selects RX6 yX6_isWhole yX6_isWhole, Cond.code yX6_isWhole cX6_isWhole 3 (some .boolean), Cond.methodLink RX6 52 yX6_following, Cond.instanceMethod yX6_following, Cond.selects RX6 yX6_following yX6_following]
def wsL_law_r16 : List Cond := [Cond.code yX6_following cX6_following 3 (some .int), Cond.methodLink RX6 49 yX6_together, Cond.instanceMethod yX6_together, Cond.selects RX6 yX6_together yX6_together, Cond.code yX6_together cX6_together 3 (some .boolean), Cond.methodLink RX7 123 yX0_part, Cond.instanceMethod yX0_part, Cond.selects RX0 yX0_part yX0_part, Cond.code yX0_part cX0_part 2 (some .int), Cond.methodLink RX0 23 yX0_leaps, Cond.instanceMethod yX0_leaps, Cond.selects RX0 yX0_leaps yX0_leaps, Cond.code yX0_leaps cX0_leaps 4 (some .int), Cond.fieldLink RX0 36 "VoiceRows$Score" "count" "I", Cond.fieldLink RX0 46 "VoiceRows$Score" "pitch" "[I", Cond.methodLink RX0 49 Lib.Math.abs.name, Cond.methodLink RX0 42 yX6_following, Cond.methodLink RX0 27 yX0_gaps, Cond.instanceMethod yX0_gaps, Cond.selects RX0 yX0_gaps yX0_gaps, Cond.code yX0_gaps cX0_gaps 4 (some .int), Cond.fieldLink RX0 54 "VoiceRows$Score" "from" "[I", Cond.fieldLink RX0 57 "VoiceRows$Score" "to" "[I", Cond.methodLink RX0 30 yX0_crossings]
def wsL_law_r17 : List Cond := [Cond.instanceMethod yX0_crossings, Cond.selects RX0 yX0_crossings yX0_crossings, Cond.code yX0_crossings cX0_crossings 1 (some .int), Cond.methodLink RX0 60 yX4_scan, Cond.instanceMethod yX4_scan, Cond.selects RX4 yX4_scan yX4_scan, Cond.code yX4_scan cX4_scan 6 (some .int), Cond.fieldLink RX4 15 "VoiceRows$Score" "count" "I", Cond.fieldLink RX4 21 "VoiceRows$Score" "order" "[I", Cond.fieldLink RX4 29 "VoiceRows$PairRows" "one" "I", Cond.fieldLink RX4 32 "VoiceRows$PairRows" "other" "I", Cond.methodLink RX4 25 yX4_isPair, Cond.instanceMethod yX4_isPair, Cond.selects RX4 yX4_isPair yX4_isPair, Cond.code yX4_isPair cX4_isPair 4 (some .boolean), Cond.fieldLink RX4 35 "VoiceRows$Score" "voice" "[I", Cond.methodLink RX4 38 yX6_together, Cond.methodLink RX4 42 yX4_isUnder, Cond.instanceMethod yX4_isUnder, Cond.selects RX4 yX4_isUnder yX4_isUnder, Cond.code yX4_isUnder cX4_isUnder 3 (some .boolean), Cond.fieldLink RX4 51 "VoiceRows$Score" "pitch" "[I", Cond.methodLink RX4 45 yX4_doMeet, Cond.instanceMethod yX4_doMeet]
def wsL_law_r18 : List Cond := [Cond.selects RX4 yX4_doMeet yX4_doMeet, Cond.code yX4_doMeet cX4_doMeet 3 (some .boolean), Cond.methodLink RX4 48 yX4_sameSpan, Cond.instanceMethod yX4_sameSpan, Cond.selects RX4 yX4_sameSpan yX4_sameSpan, Cond.code yX4_sameSpan cX4_sameSpan 3 (some .boolean), Cond.fieldLink RX4 54 "VoiceRows$Score" "from" "[I", Cond.fieldLink RX4 57 "VoiceRows$Score" "to" "[I", Cond.methodLink RX0 33 yX0_used, Cond.instanceMethod yX0_used, Cond.selects RX0 yX0_used yX0_used, Cond.code yX0_used cX0_used 1 (some .int), Cond.methodLink RX0 66 yX6_voicesUsed, Cond.instanceMethod yX6_voicesUsed, Cond.selects RX6 yX6_voicesUsed yX6_voicesUsed, Cond.code yX6_voicesUsed cX6_voicesUsed 3 (some .int), Cond.methodLink RX6 65 yX6_notesIn, Cond.instanceMethod yX6_notesIn, Cond.selects RX6 yX6_notesIn yX6_notesIn, Cond.code yX6_notesIn cX6_notesIn 4 (some .int), Cond.methodLink RL 53 yX8_cost, Cond.instanceMethod yX8_cost, Cond.selects RX8 yX8_cost yX8_cost, Cond.code yX8_cost cX8_cost 6 (some .int)]
def wsL_law_r19 : List Cond := [Cond.methodLink RX8 95 yX8_isWhole, Cond.instanceMethod yX8_isWhole, Cond.selects RX8 yX8_isWhole yX8_isWhole, Cond.code yX8_isWhole cX8_isWhole 3 (some .boolean), Cond.methodLink RX8 89 yX8_clashes, Cond.instanceMethod yX8_clashes, Cond.selects RX8 yX8_clashes yX8_clashes, Cond.code yX8_clashes cX8_clashes 4 (some .int), Cond.methodLink RX8 99 yX8_nextOf, Cond.instanceMethod yX8_nextOf, Cond.selects RX8 yX8_nextOf yX8_nextOf, Cond.code yX8_nextOf cX8_nextOf 4 (some .int), Cond.methodLink RX8 102 yX8_pairs, Cond.instanceMethod yX8_pairs, Cond.selects RX8 yX8_pairs yX8_pairs, Cond.code yX8_pairs cX8_pairs 2 (some .int), Cond.methodLink RX8 131 yX8_pairOf, Cond.instanceMethod yX8_pairOf, Cond.selects RX8 yX8_pairOf yX8_pairOf, Cond.code yX8_pairOf cX8_pairOf 7 (some .int), Cond.methodLink RX8 128 yX8_isPair, Cond.instanceMethod yX8_isPair, Cond.selects RX8 yX8_isPair yX8_isPair, Cond.code yX8_isPair cX8_isPair 4 (some .boolean)]
def wsL_law_r20 : List Cond := [Cond.methodLink RX8 105 yX8_used, Cond.instanceMethod yX8_used, Cond.selects RX8 yX8_used yX8_used, Cond.code yX8_used cX8_used 3 (some .int), Cond.methodLink RX8 92 yX8_size, Cond.instanceMethod yX8_size, Cond.selects RX8 yX8_size yX8_size, Cond.code yX8_size cX8_size 4 (some .int), Cond.methodLink RL 54 yX7_of, Cond.instanceMethod yX7_of, Cond.selects RX7 yX7_of yX7_of, Cond.code yX7_of cX7_of 3 (some .int), Cond.fieldLink RX7 126 "VoiceRows$Score" "from" "[I", Cond.fieldLink RX7 129 "VoiceRows$Score" "to" "[I", Cond.fieldLink RX7 132 "VoiceRows$Score" "pitch" "[I", Cond.fieldLink RX7 135 "VoiceRows$Score" "rank" "[I", Cond.methodLink RX7 138 yX6_following, Cond.methodLink RX7 141 yX6_clashes, Cond.instanceMethod yX6_clashes, Cond.selects RX6 yX6_clashes yX6_clashes, Cond.code yX6_clashes cX6_clashes 4 (some .int), Cond.methodLink RL 57 yX8_of, Cond.instanceMethod yX8_of, Cond.selects RX8 yX8_of yX8_of]
def wsL_law_r21 : List Cond := [Cond.code yX8_of cX8_of 3 (some .int), Cond.methodLink RL 58 yX7_ranked, Cond.instanceMethod yX7_ranked, Cond.selects RX7 yX7_ranked yX7_ranked, Cond.code yX7_ranked cX7_ranked 2 (some .int), Cond.fieldLink RX7 144 "VoiceRows$Score" "order" "[I", Cond.methodLink RL 61 yX8_ranked, Cond.instanceMethod yX8_ranked, Cond.selects RX8 yX8_ranked yX8_ranked, Cond.code yX8_ranked cX8_ranked 2 (some .int), Cond.methodLink RL 62 yX7_sounding, Cond.instanceMethod yX7_sounding, Cond.selects RX7 yX7_sounding yX7_sounding, Cond.code yX7_sounding cX7_sounding 2 (some .int), Cond.methodLink RX7 148 yX6_soundingAt, Cond.instanceMethod yX6_soundingAt, Cond.selects RX6 yX6_soundingAt yX6_soundingAt, Cond.code yX6_soundingAt cX6_soundingAt 4 (some .int), Cond.methodLink RL 65 yX8_sounding, Cond.instanceMethod yX8_sounding, Cond.selects RX8 yX8_sounding yX8_sounding, Cond.code yX8_sounding cX8_sounding 2 (some .int), Cond.methodLink RX8 109 yX8_at, Cond.instanceMethod yX8_at]
def wsL_law_r22 : List Cond := [Cond.selects RX8 yX8_at yX8_at, Cond.code yX8_at cX8_at 4 (some .int), Cond.methodLink RL 66 yX7_needed, Cond.instanceMethod yX7_needed, Cond.selects RX7 yX7_needed yX7_needed, Cond.code yX7_needed cX7_needed 1 (some .int), Cond.methodLink RX7 151 yX6_thickest, Cond.instanceMethod yX6_thickest, Cond.selects RX6 yX6_thickest yX6_thickest, Cond.code yX6_thickest cX6_thickest 3 (some .int), Cond.methodLink RX6 59 Lib.Math.max.name, Cond.methodLink RX6 56 yX6_soundingAt, Cond.methodLink RL 69 yX8_needed, Cond.instanceMethod yX8_needed, Cond.selects RX8 yX8_needed yX8_needed, Cond.code yX8_needed cX8_needed 3 (some .int), Cond.methodLink RL 70 yX7_rests, Cond.instanceMethod yX7_rests, Cond.selects RX7 yX7_rests yX7_rests, Cond.code yX7_rests cX7_rests 2 (some .int), Cond.fieldLink RX7 159 "VoiceRows$RestRows" "count" "I", Cond.methodLink RX7 155 yX5_collect, Cond.instanceMethod yX5_collect, Cond.selects RX5 yX5_collect yX5_collect]
def wsL_law_r23 : List Cond := [Cond.code yX5_collect cX5_collect 5 none, Cond.fieldLink RX5 22 "VoiceRows$RestRows" "count" "I", Cond.fieldLink RX5 26 "VoiceRows$Score" "count" "I", Cond.fieldLink RX5 29 "VoiceRows$Score" "order" "[I", Cond.fieldLink RX5 36 "VoiceRows$Score" "from" "[I", Cond.fieldLink RX5 43 "VoiceRows$Score" "to" "[I", Cond.methodLink RX5 46 Lib.Math.max.name, Cond.methodLink RX5 32 yX5_breaksRest, Cond.instanceMethod yX5_breaksRest, Cond.selects RX5 yX5_breaksRest yX5_breaksRest, Cond.code yX5_breaksRest cX5_breaksRest 3 (some .boolean), Cond.fieldLink RX5 56 "VoiceRows$Score" "voice" "[I", Cond.methodLink RX5 39 yX5_keep, Cond.instanceMethod yX5_keep, Cond.selects RX5 yX5_keep yX5_keep, Cond.code yX5_keep cX5_keep 3 none, Cond.methodLink RX5 52 yX6_theEnd, Cond.instanceMethod yX6_theEnd, Cond.selects RX6 yX6_theEnd yX6_theEnd, Cond.code yX6_theEnd cX6_theEnd 3 (some .int), Cond.methodLink RL 73 yX8_rests, Cond.instanceMethod yX8_rests, Cond.selects RX8 yX8_rests yX8_rests, Cond.code yX8_rests cX8_rests 2 (some .int)]
def wsL_law_r24 : List Cond := [Cond.methodLink RX8 124 yX8_restOf, Cond.instanceMethod yX8_restOf, Cond.selects RX8 yX8_restOf yX8_restOf, Cond.code yX8_restOf cX8_restOf 8 (some .int), Cond.methodLink RX8 115 yX8_theEnd, Cond.instanceMethod yX8_theEnd, Cond.selects RX8 yX8_theEnd yX8_theEnd, Cond.code yX8_theEnd cX8_theEnd 3 (some .int), Cond.methodLink RX8 118 yX8_silence, Cond.instanceMethod yX8_silence, Cond.selects RX8 yX8_silence yX8_silence, Cond.code yX8_silence cX8_silence 6 (some .int), Cond.methodLink RX8 112 yX8_isOf, Cond.instanceMethod yX8_isOf, Cond.selects RX8 yX8_isOf yX8_isOf, Cond.code yX8_isOf cX8_isOf 3 (some .boolean), Cond.methodLink RX8 121 yX8_sound, Cond.instanceMethod yX8_sound, Cond.selects RX8 yX8_sound yX8_sound, Cond.code yX8_sound cX8_sound 5 (some .int), Cond.methodLink RL 74 yX7_rest, Cond.instanceMethod yX7_rest, Cond.selects RX7 yX7_rest yX7_rest, Cond.code yX7_rest cX7_rest 4 (some .int)]
def wsL_law_r25 : List Cond := [Cond.fieldLink RX7 160 "VoiceRows$RestRows" "begin" "[I", Cond.fieldLink RX7 163 "VoiceRows$RestRows" "end" "[I", Cond.methodLink RL 77 yX8_rest, Cond.instanceMethod yX8_rest, Cond.selects RX8 yX8_rest yX8_rest, Cond.code yX8_rest cX8_rest 4 (some .int), Cond.methodLink RL 78 yX7_pairs, Cond.instanceMethod yX7_pairs, Cond.selects RX7 yX7_pairs yX7_pairs, Cond.code yX7_pairs cX7_pairs 2 (some .int), Cond.methodLink RX7 166 yX4_scan, Cond.methodLink RL 81 yX8_pairs, Cond.methodLink RL 82 yX7_pair, Cond.instanceMethod yX7_pair, Cond.selects RX7 yX7_pair yX7_pair, Cond.code yX7_pair cX7_pair 5 (some .int), Cond.fieldLink RX7 170 "VoiceRows$PairRows" "one" "I", Cond.fieldLink RX7 173 "VoiceRows$PairRows" "other" "I", Cond.methodLink RL 85 yX8_pair, Cond.instanceMethod yX8_pair, Cond.selects RX8 yX8_pair yX8_pair, Cond.code yX8_pair cX8_pair 4 (some .int), Cond.methodLink RL 86 yX7_voice, Cond.instanceMethod yX7_voice]
def wsL_law_r26 : List Cond := [Cond.selects RX7 yX7_voice yX7_voice, Cond.code yX7_voice cX7_voice 3 (some .int), Cond.methodLink RX7 176 yX6_lowestIn, Cond.instanceMethod yX6_lowestIn, Cond.selects RX6 yX6_lowestIn yX6_lowestIn, Cond.code yX6_lowestIn cX6_lowestIn 4 (some .int), Cond.methodLink RX7 179 yX6_highestIn, Cond.instanceMethod yX6_highestIn, Cond.selects RX6 yX6_highestIn yX6_highestIn, Cond.code yX6_highestIn cX6_highestIn 4 (some .int), Cond.methodLink RX7 182 yX6_notesIn, Cond.methodLink RL 89 yX8_voice, Cond.instanceMethod yX8_voice, Cond.selects RX8 yX8_voice yX8_voice, Cond.code yX8_voice cX8_voice 6 (some .int), Cond.methodLink RL 90 yX7_told, Cond.instanceMethod yX7_told, Cond.selects RX7 yX7_told yX7_told, Cond.code yX7_told cX7_told 2 (some .int), Cond.methodLink RX7 185 yX6_theEnd, Cond.methodLink RX7 188 yX6_voicesUsed, Cond.methodLink RL 93 yX8_told, Cond.instanceMethod yX8_told, Cond.selects RX8 yX8_told yX8_told]
def wsL_law_r27 : List Cond := [Cond.code yX8_told cX8_told 2 (some .int)]
def wsL_law : List Cond := (wsL_law_r1 ++ (wsL_law_r2 ++ (wsL_law_r3 ++ (wsL_law_r4 ++ (wsL_law_r5 ++ (wsL_law_r6 ++ (wsL_law_r7 ++ (wsL_law_r8 ++ (wsL_law_r9 ++ (wsL_law_r10 ++ (wsL_law_r11 ++ (wsL_law_r12 ++ (wsL_law_r13 ++ (wsL_law_r14 ++ (wsL_law_r15 ++ (wsL_law_r16 ++ (wsL_law_r17 ++ (wsL_law_r18 ++ (wsL_law_r19 ++ (wsL_law_r20 ++ (wsL_law_r21 ++ (wsL_law_r22 ++ (wsL_law_r23 ++ (wsL_law_r24 ++ (wsL_law_r25 ++ (wsL_law_r26 ++ wsL_law_r27)))))))))))))))))))))))))) ++ wsX70 ++ wsX80 ++ wsX60 ++ wsX50 ++ wsX40 ++ wsX00 ++ wsX30 ++ wsX10 ++ wsX20 ++ ([] : List Cond)
end
section
theorem gk_in {big ws : List Cond} (ps : List Nat) (hp : ws = ps.filterMap (fun i => big[i]?)) : ∀ w ∈ ws, w ∈ big := by
  intro w hw
  rw [hp] at hw
  obtain ⟨i, -, hi⟩ := List.mem_filterMap.mp hw
  first | exact List.mem_of_getElem? hi | exact List.getElem?_mem hi
set_option maxRecDepth 20000 in
theorem in_wsL_law_r1 : ∀ w ∈ wsL_law_r1, w ∈ lw_tbl := gk_in [56, 57, 44, 554, 555, 52, 58, 59, 60, 61, 62, 63, 64, 65, 45, 246, 125, 127, 128, 129, 130, 131, 133, 247] (by decide +kernel)
set_option maxRecDepth 20000 in
theorem in_wsL_law_r2 : ∀ w ∈ wsL_law_r2, w ∈ lw_tbl := gk_in [134, 135, 46, 248, 156, 157, 47, 249, 174, 175, 48, 250, 190, 191, 49, 208, 209, 50, 251, 230, 231, 51, 252, 67] (by decide +kernel)
set_option maxRecDepth 20000 in
theorem in_wsL_law_r3 : ∀ w ∈ wsL_law_r3, w ∈ lw_tbl := gk_in [68, 69, 124, 77, 83, 89, 94, 100, 106, 136, 137, 138, 139, 143, 145, 140, 158, 159, 160, 161, 162, 176, 177, 178] (by decide +kernel)
set_option maxRecDepth 20000 in
theorem in_wsL_law_r4 : ∀ w ∈ wsL_law_r4, w ∈ lw_tbl := gk_in [179, 180, 181, 182, 192, 193, 194, 195, 198, 196, 197, 210, 211, 212, 213, 216, 218, 214, 215, 232, 233, 234, 235, 238] (by decide +kernel)
set_option maxRecDepth 20000 in
theorem in_wsL_law_r5 : ∀ w ∈ wsL_law_r5, w ∈ lw_tbl := gk_in [236, 237, 556, 557, 558, 559, 561, 562, 563, 564, 566, 567, 568, 569, 560, 570, 268, 269, 270, 271, 71, 272, 274, 273] (by decide +kernel)
set_option maxRecDepth 20000 in
theorem in_wsL_law_r6 : ∀ w ∈ wsL_law_r6, w ∈ lw_tbl := gk_in [53, 592, 593, 594, 595, 565, 275, 276, 277, 278, 279, 280, 281, 282, 283, 284, 285, 286, 287, 288, 289, 70, 290, 291] (by decide +kernel)
set_option maxRecDepth 20000 in
theorem in_wsL_law_r7 : ∀ w ∈ wsL_law_r7, w ∈ lw_tbl := gk_in [292, 293, 294, 296, 0, 297, 298, 300, 1, 301, 596, 597, 598, 599, 600, 601, 602, 603, 604, 606, 19, 607, 608, 610] (by decide +kernel)
set_option maxRecDepth 20000 in
theorem in_wsL_law_r8 : ∀ w ∈ wsL_law_r8, w ∈ lw_tbl := gk_in [20, 611, 612, 614, 21, 615, 302, 303, 304, 305, 306, 307, 308, 309, 311, 616, 617, 618, 619, 312, 313, 314, 315, 620] (by decide +kernel)
set_option maxRecDepth 20000 in
theorem in_wsL_law_r9 : ∀ w ∈ wsL_law_r9, w ∈ lw_tbl := gk_in [621, 622, 623, 316, 317, 318, 319, 99, 624, 625, 626, 627, 320, 321, 322, 323, 324, 325, 326, 327, 328, 329, 330, 331] (by decide +kernel)
set_option maxRecDepth 20000 in
theorem in_wsL_law_r10 : ∀ w ∈ wsL_law_r10, w ∈ lw_tbl := gk_in [217, 332, 334, 2, 335, 76, 336, 337, 338, 54, 339, 340, 341, 342, 343, 344, 55, 345, 346, 347, 348, 349, 350, 351] (by decide +kernel)
set_option maxRecDepth 20000 in
theorem in_wsL_law_r11 : ∀ w ∈ wsL_law_r11, w ∈ lw_tbl := gk_in [352, 353, 354, 355, 356, 358, 3, 359, 360, 362, 4, 363, 104, 200, 364, 365, 366, 367, 79, 85, 91, 372, 373, 374] (by decide +kernel)
set_option maxRecDepth 20000 in
theorem in_wsL_law_r12 : ∀ w ∈ wsL_law_r12, w ∈ lw_tbl := gk_in [368, 370, 5, 371, 375, 377, 6, 378, 107, 379, 380, 381, 382, 98, 383, 385, 7, 386, 662, 663, 664, 665, 666, 629] (by decide +kernel)
set_option maxRecDepth 20000 in
theorem in_wsL_law_r13 : ∀ w ∈ wsL_law_r13, w ∈ lw_tbl := gk_in [630, 631, 649, 632, 634, 22, 635, 636, 638, 23, 639, 640, 642, 24, 643, 644, 645, 647, 25, 648, 650, 652, 26, 653] (by decide +kernel)
set_option maxRecDepth 20000 in
theorem in_wsL_law_r14 : ∀ w ∈ wsL_law_r14, w ∈ lw_tbl := gk_in [654, 656, 27, 657, 658, 660, 28, 661, 667, 669, 29, 670, 387, 628, 388, 389, 390, 391, 392, 393, 394, 395, 73, 101] (by decide +kernel)
set_option maxRecDepth 20000 in
theorem in_wsL_law_r15 : ∀ w ∈ wsL_law_r15, w ∈ lw_tbl := gk_in [199, 95, 402, 396, 397, 399, 8, 400, 401, 671, 672, 673, 674, 403, 404, 405, 406, 407, 408, 409, 410, 411, 412, 413] (by decide +kernel)
set_option maxRecDepth 20000 in
theorem in_wsL_law_r16 : ∀ w ∈ wsL_law_r16, w ∈ lw_tbl := gk_in [414, 415, 416, 417, 418, 419, 420, 421, 422, 423, 425, 9, 426, 75, 90, 428, 427, 429, 431, 10, 432, 80, 86, 433] (by decide +kernel)
set_option maxRecDepth 20000 in
theorem in_wsL_law_r17 : ∀ w ∈ wsL_law_r17, w ∈ lw_tbl := gk_in [435, 11, 436, 437, 438, 439, 440, 72, 103, 163, 165, 441, 443, 12, 444, 96, 445, 446, 448, 13, 449, 92, 450, 452] (by decide +kernel)
set_option maxRecDepth 20000 in
theorem in_wsL_law_r18 : ∀ w ∈ wsL_law_r18, w ∈ lw_tbl := gk_in [14, 453, 454, 456, 15, 457, 81, 87, 458, 460, 16, 461, 462, 463, 464, 465, 466, 467, 468, 469, 675, 676, 677, 678] (by decide +kernel)
set_option maxRecDepth 20000 in
theorem in_wsL_law_r19 : ∀ w ∈ wsL_law_r19, w ∈ lw_tbl := gk_in [679, 681, 30, 682, 683, 685, 31, 686, 687, 689, 32, 690, 691, 692, 693, 694, 695, 697, 33, 698, 699, 701, 34, 702] (by decide +kernel)
set_option maxRecDepth 20000 in
theorem in_wsL_law_r20 : ∀ w ∈ wsL_law_r20, w ∈ lw_tbl := gk_in [703, 705, 35, 706, 707, 709, 36, 710, 470, 471, 472, 473, 82, 88, 93, 108, 474, 475, 476, 477, 478, 711, 712, 713] (by decide +kernel)
set_option maxRecDepth 20000 in
theorem in_wsL_law_r21 : ∀ w ∈ wsL_law_r21, w ∈ lw_tbl := gk_in [714, 479, 480, 481, 482, 105, 715, 716, 717, 718, 483, 484, 485, 486, 487, 488, 489, 490, 719, 720, 721, 722, 723, 725] (by decide +kernel)
set_option maxRecDepth 20000 in
theorem in_wsL_law_r22 : ∀ w ∈ wsL_law_r22, w ∈ lw_tbl := gk_in [37, 726, 491, 492, 493, 494, 495, 496, 497, 498, 500, 499, 727, 728, 729, 730, 501, 502, 503, 504, 142, 505, 506, 507] (by decide +kernel)
set_option maxRecDepth 20000 in
theorem in_wsL_law_r23 : ∀ w ∈ wsL_law_r23, w ∈ lw_tbl := gk_in [508, 141, 74, 102, 78, 84, 517, 509, 511, 17, 512, 97, 513, 515, 18, 516, 518, 519, 520, 521, 731, 732, 733, 734] (by decide +kernel)
set_option maxRecDepth 20000 in
theorem in_wsL_law_r24 : ∀ w ∈ wsL_law_r24, w ∈ lw_tbl := gk_in [735, 737, 38, 738, 739, 741, 39, 742, 743, 745, 40, 746, 747, 749, 41, 750, 751, 753, 42, 754, 522, 523, 524, 525] (by decide +kernel)
set_option maxRecDepth 20000 in
theorem in_wsL_law_r25 : ∀ w ∈ wsL_law_r25, w ∈ lw_tbl := gk_in [144, 146, 755, 756, 757, 758, 526, 527, 528, 529, 530, 759, 531, 532, 533, 534, 164, 166, 760, 761, 762, 763, 535, 536] (by decide +kernel)
set_option maxRecDepth 20000 in
theorem in_wsL_law_r26 : ∀ w ∈ wsL_law_r26, w ∈ lw_tbl := gk_in [537, 538, 539, 540, 541, 542, 543, 544, 545, 546, 547, 764, 765, 766, 767, 548, 549, 550, 551, 552, 553, 768, 769, 770] (by decide +kernel)
set_option maxRecDepth 20000 in
theorem in_wsL_law_r27 : ∀ w ∈ wsL_law_r27, w ∈ lw_tbl := gk_in [771] (by decide +kernel)
set_option maxRecDepth 20000 in
theorem inX0 : ∀ w ∈ wsX00, w ∈ lw_tbl := by decide +kernel
set_option maxRecDepth 20000 in
theorem inX1 : ∀ w ∈ wsX10, w ∈ lw_tbl := by decide +kernel
set_option maxRecDepth 20000 in
theorem inX2 : ∀ w ∈ wsX20, w ∈ lw_tbl := by decide +kernel
set_option maxRecDepth 20000 in
theorem inX3 : ∀ w ∈ wsX30, w ∈ lw_tbl := by decide +kernel
set_option maxRecDepth 20000 in
theorem inX4 : ∀ w ∈ wsX40, w ∈ lw_tbl := by decide +kernel
set_option maxRecDepth 20000 in
theorem inX5 : ∀ w ∈ wsX50, w ∈ lw_tbl := by decide +kernel
set_option maxRecDepth 20000 in
theorem inX6 : ∀ w ∈ wsX60, w ∈ lw_tbl := by decide +kernel
set_option maxRecDepth 20000 in
theorem inX7 : ∀ w ∈ wsX70, w ∈ lw_tbl := by decide +kernel
set_option maxRecDepth 20000 in
theorem inX8 : ∀ w ∈ wsX80, w ∈ lw_tbl := by decide +kernel
theorem wsL_law_in : ∀ w ∈ wsL_law, w ∈ lw_tbl := List.forall_mem_append.mpr ⟨List.forall_mem_append.mpr ⟨List.forall_mem_append.mpr ⟨List.forall_mem_append.mpr ⟨List.forall_mem_append.mpr ⟨List.forall_mem_append.mpr ⟨List.forall_mem_append.mpr ⟨List.forall_mem_append.mpr ⟨List.forall_mem_append.mpr ⟨List.forall_mem_append.mpr ⟨List.forall_mem_append.mpr ⟨in_wsL_law_r1, List.forall_mem_append.mpr ⟨in_wsL_law_r2, List.forall_mem_append.mpr ⟨in_wsL_law_r3, List.forall_mem_append.mpr ⟨in_wsL_law_r4, List.forall_mem_append.mpr ⟨in_wsL_law_r5, List.forall_mem_append.mpr ⟨in_wsL_law_r6, List.forall_mem_append.mpr ⟨in_wsL_law_r7, List.forall_mem_append.mpr ⟨in_wsL_law_r8, List.forall_mem_append.mpr ⟨in_wsL_law_r9, List.forall_mem_append.mpr ⟨in_wsL_law_r10, List.forall_mem_append.mpr ⟨in_wsL_law_r11, List.forall_mem_append.mpr ⟨in_wsL_law_r12, List.forall_mem_append.mpr ⟨in_wsL_law_r13, List.forall_mem_append.mpr ⟨in_wsL_law_r14, List.forall_mem_append.mpr ⟨in_wsL_law_r15, List.forall_mem_append.mpr ⟨in_wsL_law_r16, List.forall_mem_append.mpr ⟨in_wsL_law_r17, List.forall_mem_append.mpr ⟨in_wsL_law_r18, List.forall_mem_append.mpr ⟨in_wsL_law_r19, List.forall_mem_append.mpr ⟨in_wsL_law_r20, List.forall_mem_append.mpr ⟨in_wsL_law_r21, List.forall_mem_append.mpr ⟨in_wsL_law_r22, List.forall_mem_append.mpr ⟨in_wsL_law_r23, List.forall_mem_append.mpr ⟨in_wsL_law_r24, List.forall_mem_append.mpr ⟨in_wsL_law_r25, List.forall_mem_append.mpr ⟨in_wsL_law_r26, in_wsL_law_r27⟩⟩⟩⟩⟩⟩⟩⟩⟩⟩⟩⟩⟩⟩⟩⟩⟩⟩⟩⟩⟩⟩⟩⟩⟩⟩, inX7⟩, inX8⟩, inX6⟩, inX5⟩, inX4⟩, inX0⟩, inX3⟩, inX1⟩, inX2⟩, fun _ h => absurd h List.not_mem_nil⟩
end
section
theorem inlX0 : ∀ w ∈ wsX00, w ∈ wsL_law := fun _ h => List.mem_append_left _ (List.mem_append_left _ (List.mem_append_left _ (List.mem_append_left _ (List.mem_append_right _ h))))
theorem inlX1 : ∀ w ∈ wsX10, w ∈ wsL_law := fun _ h => List.mem_append_left _ (List.mem_append_left _ (List.mem_append_right _ h))
theorem inlX2 : ∀ w ∈ wsX20, w ∈ wsL_law := fun _ h => List.mem_append_left _ (List.mem_append_right _ h)
theorem inlX3 : ∀ w ∈ wsX30, w ∈ wsL_law := fun _ h => List.mem_append_left _ (List.mem_append_left _ (List.mem_append_left _ (List.mem_append_right _ h)))
theorem inlX4 : ∀ w ∈ wsX40, w ∈ wsL_law := fun _ h => List.mem_append_left _ (List.mem_append_left _ (List.mem_append_left _ (List.mem_append_left _ (List.mem_append_left _ (List.mem_append_right _ h)))))
theorem inlX5 : ∀ w ∈ wsX50, w ∈ wsL_law := fun _ h => List.mem_append_left _ (List.mem_append_left _ (List.mem_append_left _ (List.mem_append_left _ (List.mem_append_left _ (List.mem_append_left _ (List.mem_append_right _ h))))))
theorem inlX6 : ∀ w ∈ wsX60, w ∈ wsL_law := fun _ h => List.mem_append_left _ (List.mem_append_left _ (List.mem_append_left _ (List.mem_append_left _ (List.mem_append_left _ (List.mem_append_left _ (List.mem_append_left _ (List.mem_append_right _ h)))))))
theorem inlX7 : ∀ w ∈ wsX70, w ∈ wsL_law := fun _ h => List.mem_append_left _ (List.mem_append_left _ (List.mem_append_left _ (List.mem_append_left _ (List.mem_append_left _ (List.mem_append_left _ (List.mem_append_left _ (List.mem_append_left _ (List.mem_append_left _ (List.mem_append_right _ h)))))))))
theorem inlX8 : ∀ w ∈ wsX80, w ∈ wsL_law := fun _ h => List.mem_append_left _ (List.mem_append_left _ (List.mem_append_left _ (List.mem_append_left _ (List.mem_append_left _ (List.mem_append_left _ (List.mem_append_left _ (List.mem_append_left _ (List.mem_append_right _ h))))))))
theorem inJx8e188 : ∀ w ∈ wsJx8e1880, w ∈ lw_tbl := by decide +kernel
theorem inJ9 : ∀ w ∈ wsJ90, w ∈ lw_tbl := by decide +kernel
theorem inJ10 : ∀ w ∈ wsJ100, w ∈ lw_tbl := by decide +kernel
theorem inJ7 : ∀ w ∈ wsJ70, w ∈ lw_tbl := by decide +kernel
theorem dX0_init_0 : decode cX0_init 0 = .ok (.aload_n 0, 1) := by decide +kernel
theorem dX0_init_1 : decode cX0_init 1 = .ok (.invokespecial 3, 3) := by decide +kernel
theorem dX0_init_4 : decode cX0_init 4 = .ok (.aload_n 0, 1) := by decide +kernel
theorem dX0_init_5 : decode cX0_init 5 = .ok (.aload_n 1, 1) := by decide +kernel
theorem dX0_init_6 : decode cX0_init 6 = .ok (.putfield 9, 3) := by decide +kernel
theorem dX0_init_9 : decode cX0_init 9 = .ok (.aload_n 0, 1) := by decide +kernel
theorem dX0_init_10 : decode cX0_init 10 = .ok (.aload_n 2, 1) := by decide +kernel
theorem dX0_init_11 : decode cX0_init 11 = .ok (.putfield 15, 3) := by decide +kernel
theorem dX0_init_14 : decode cX0_init 14 = .ok (.aload_n 0, 1) := by decide +kernel
theorem dX0_init_15 : decode cX0_init 15 = .ok (.aload_n 3, 1) := by decide +kernel
theorem dX0_init_16 : decode cX0_init 16 = .ok (.putfield 19, 3) := by decide +kernel
theorem dX0_init_19 : decode cX0_init 19 = .ok (.return_, 1) := by decide +kernel
set_option maxRecDepth 20000 in
theorem ggX0_part_X0_leaps : GoodIn wsX0_part wsX0_leaps := goodIn_r _ [5, 6, 7, 8, 9, 10, 11, 12, 13, 14, 15, 16, 17, 18, 19, 20, 21, 22, 82, 83, 84, 85, 86, 87, 88, 89, 90, 91] (by decide +kernel) (by decide +kernel)
set_option maxRecDepth 20000 in
theorem gX0_part_X0_leaps : GoodIn wsX0_part (wsV RX0 23 RX0 yX0_leaps wsX0_leaps) := goodIn_app (goodIn_of _ (by decide +kernel)) ggX0_part_X0_leaps
set_option maxRecDepth 20000 in
theorem ggX0_part_X0_gaps : GoodIn wsX0_part wsX0_gaps := goodIn_r _ [26, 6, 7, 27, 28, 13, 14, 15, 16, 17, 18, 19, 20, 21, 22, 82, 83, 84, 85, 86, 87, 88, 89, 90, 91] (by decide +kernel) (by decide +kernel)
set_option maxRecDepth 20000 in
theorem gX0_part_X0_gaps : GoodIn wsX0_part (wsV RX0 27 RX0 yX0_gaps wsX0_gaps) := goodIn_app (goodIn_of _ (by decide +kernel)) ggX0_part_X0_gaps
set_option maxRecDepth 20000 in
theorem ggX0_part_X0_crossings : GoodIn wsX0_part wsX0_crossings := goodIn_r _ [32, 33, 13, 34, 35, 36, 37, 38, 39, 40, 41, 42, 43, 44, 45, 46, 47, 48, 49, 50, 51, 17, 52, 53, 54, 55, 56, 57, 58, 59, 60, 61, 62, 63, 64, 65, 66, 67, 68, 69, 82, 83, 84, 92, 93, 94, 85, 86, 87, 88, 89, 90, 91] (by decide +kernel) (by decide +kernel)
set_option maxRecDepth 20000 in
theorem gX0_part_X0_crossings : GoodIn wsX0_part (wsV RX0 30 RX0 yX0_crossings wsX0_crossings) := goodIn_app (goodIn_of _ (by decide +kernel)) ggX0_part_X0_crossings
set_option maxRecDepth 20000 in
theorem ggX0_part_X0_used : GoodIn wsX0_part wsX0_used := goodIn_r _ [73, 6, 13, 74, 75, 76, 17, 77, 78, 79, 80, 81, 21, 19, 82, 83, 84, 85, 86, 87, 88, 89, 90, 91] (by decide +kernel) (by decide +kernel)
set_option maxRecDepth 20000 in
theorem gX0_part_X0_used : GoodIn wsX0_part (wsV RX0 33 RX0 yX0_used wsX0_used) := goodIn_app (goodIn_of _ (by decide +kernel)) ggX0_part_X0_used
theorem dX0_part_0 : decode cX0_part 0 = .ok (.iload_n 1, 1) := by decide +kernel
theorem dX0_part_1 : decode cX0_part 1 = .ok (.tableswitch 51 1 4 #[31, 36, 41, 46], 31) := by decide +kernel
theorem dX0_part_32 : decode cX0_part 32 = .ok (.aload_n 0, 1) := by decide +kernel
theorem dX0_part_33 : decode cX0_part 33 = .ok (.invokevirtual 23, 3) := by decide +kernel
theorem dX0_part_36 : decode cX0_part 36 = .ok (.ireturn, 1) := by decide +kernel
theorem dX0_part_37 : decode cX0_part 37 = .ok (.aload_n 0, 1) := by decide +kernel
theorem dX0_part_38 : decode cX0_part 38 = .ok (.invokevirtual 27, 3) := by decide +kernel
theorem dX0_part_41 : decode cX0_part 41 = .ok (.ireturn, 1) := by decide +kernel
theorem dX0_part_42 : decode cX0_part 42 = .ok (.aload_n 0, 1) := by decide +kernel
theorem dX0_part_43 : decode cX0_part 43 = .ok (.invokevirtual 30, 3) := by decide +kernel
theorem dX0_part_46 : decode cX0_part 46 = .ok (.ireturn, 1) := by decide +kernel
theorem dX0_part_47 : decode cX0_part 47 = .ok (.aload_n 0, 1) := by decide +kernel
theorem dX0_part_48 : decode cX0_part 48 = .ok (.invokevirtual 33, 3) := by decide +kernel
theorem dX0_part_51 : decode cX0_part 51 = .ok (.ireturn, 1) := by decide +kernel
theorem dX0_part_52 : decode cX0_part 52 = .ok (.aload_n 0, 1) := by decide +kernel
theorem dX0_part_53 : decode cX0_part 53 = .ok (.invokevirtual 23, 3) := by decide +kernel
theorem dX0_part_56 : decode cX0_part 56 = .ok (.aload_n 0, 1) := by decide +kernel
theorem dX0_part_57 : decode cX0_part 57 = .ok (.invokevirtual 27, 3) := by decide +kernel
theorem dX0_part_60 : decode cX0_part 60 = .ok (.iadd, 1) := by decide +kernel
theorem dX0_part_61 : decode cX0_part 61 = .ok (.aload_n 0, 1) := by decide +kernel
theorem dX0_part_62 : decode cX0_part 62 = .ok (.invokevirtual 30, 3) := by decide +kernel
theorem dX0_part_65 : decode cX0_part 65 = .ok (.iadd, 1) := by decide +kernel
theorem dX0_part_66 : decode cX0_part 66 = .ok (.aload_n 0, 1) := by decide +kernel
theorem dX0_part_67 : decode cX0_part 67 = .ok (.invokevirtual 33, 3) := by decide +kernel
theorem dX0_part_70 : decode cX0_part 70 = .ok (.iadd, 1) := by decide +kernel
theorem dX0_part_71 : decode cX0_part 71 = .ok (.ireturn, 1) := by decide +kernel
set_option maxRecDepth 20000 in
theorem ggX0_leaps_X6_following : GoodIn wsX0_leaps wsX6_following := goodIn_r _ [13, 14, 15, 16, 17, 21, 22, 23, 24, 25, 26, 27] (by decide +kernel) (by decide +kernel)
set_option maxRecDepth 20000 in
theorem gX0_leaps_X6_following : GoodIn wsX0_leaps (wsV RX0 42 RX6 yX6_following wsX6_following) := goodIn_app (goodIn_of _ (by decide +kernel)) ggX0_leaps_X6_following
theorem dX0_leaps_0 : decode cX0_leaps 0 = .ok (.iconst 0, 1) := by decide +kernel
theorem dX0_leaps_1 : decode cX0_leaps 1 = .ok (.istore_n 1, 1) := by decide +kernel
theorem dX0_leaps_2 : decode cX0_leaps 2 = .ok (.iconst 0, 1) := by decide +kernel
theorem dX0_leaps_3 : decode cX0_leaps 3 = .ok (.istore_n 2, 1) := by decide +kernel
theorem dX0_leaps_4 : decode cX0_leaps 4 = .ok (.iload_n 2, 1) := by decide +kernel
theorem dX0_leaps_5 : decode cX0_leaps 5 = .ok (.aload_n 0, 1) := by decide +kernel
theorem dX0_leaps_6 : decode cX0_leaps 6 = .ok (.getfield 9, 3) := by decide +kernel
theorem dX0_leaps_9 : decode cX0_leaps 9 = .ok (.getfield 36, 3) := by decide +kernel
theorem dX0_leaps_12 : decode cX0_leaps 12 = .ok (.if_icmp .ge 48, 3) := by decide +kernel
theorem dX0_leaps_15 : decode cX0_leaps 15 = .ok (.aload_n 0, 1) := by decide +kernel
theorem dX0_leaps_16 : decode cX0_leaps 16 = .ok (.getfield 9, 3) := by decide +kernel
theorem dX0_leaps_19 : decode cX0_leaps 19 = .ok (.iload_n 2, 1) := by decide +kernel
theorem dX0_leaps_20 : decode cX0_leaps 20 = .ok (.invokevirtual 42, 3) := by decide +kernel
theorem dX0_leaps_23 : decode cX0_leaps 23 = .ok (.istore_n 3, 1) := by decide +kernel
theorem dX0_leaps_24 : decode cX0_leaps 24 = .ok (.iload_n 3, 1) := by decide +kernel
theorem dX0_leaps_25 : decode cX0_leaps 25 = .ok (.iconst (-1), 1) := by decide +kernel
theorem dX0_leaps_26 : decode cX0_leaps 26 = .ok (.if_icmp .eq 28, 3) := by decide +kernel
theorem dX0_leaps_29 : decode cX0_leaps 29 = .ok (.iload_n 1, 1) := by decide +kernel
theorem dX0_leaps_30 : decode cX0_leaps 30 = .ok (.aload_n 0, 1) := by decide +kernel
theorem dX0_leaps_31 : decode cX0_leaps 31 = .ok (.getfield 9, 3) := by decide +kernel
theorem dX0_leaps_34 : decode cX0_leaps 34 = .ok (.getfield 46, 3) := by decide +kernel
theorem dX0_leaps_37 : decode cX0_leaps 37 = .ok (.iload_n 3, 1) := by decide +kernel
theorem dX0_leaps_38 : decode cX0_leaps 38 = .ok (.iaload, 1) := by decide +kernel
theorem dX0_leaps_39 : decode cX0_leaps 39 = .ok (.aload_n 0, 1) := by decide +kernel
theorem dX0_leaps_40 : decode cX0_leaps 40 = .ok (.getfield 9, 3) := by decide +kernel
theorem dX0_leaps_43 : decode cX0_leaps 43 = .ok (.getfield 46, 3) := by decide +kernel
theorem dX0_leaps_46 : decode cX0_leaps 46 = .ok (.iload_n 2, 1) := by decide +kernel
theorem dX0_leaps_47 : decode cX0_leaps 47 = .ok (.iaload, 1) := by decide +kernel
theorem dX0_leaps_48 : decode cX0_leaps 48 = .ok (.isub, 1) := by decide +kernel
theorem dX0_leaps_49 : decode cX0_leaps 49 = .ok (.invokestatic 49, 3) := by decide +kernel
theorem dX0_leaps_52 : decode cX0_leaps 52 = .ok (.iadd, 1) := by decide +kernel
theorem dX0_leaps_53 : decode cX0_leaps 53 = .ok (.istore_n 1, 1) := by decide +kernel
theorem dX0_leaps_54 : decode cX0_leaps 54 = .ok (.iinc 2 1, 3) := by decide +kernel
theorem dX0_leaps_57 : decode cX0_leaps 57 = .ok (.goto (-53), 3) := by decide +kernel
theorem dX0_leaps_60 : decode cX0_leaps 60 = .ok (.iload_n 1, 1) := by decide +kernel
theorem dX0_leaps_61 : decode cX0_leaps 61 = .ok (.aload_n 0, 1) := by decide +kernel
theorem dX0_leaps_62 : decode cX0_leaps 62 = .ok (.getfield 15, 3) := by decide +kernel
theorem dX0_leaps_65 : decode cX0_leaps 65 = .ok (.iconst 0, 1) := by decide +kernel
theorem dX0_leaps_66 : decode cX0_leaps 66 = .ok (.iaload, 1) := by decide +kernel
theorem dX0_leaps_67 : decode cX0_leaps 67 = .ok (.imul, 1) := by decide +kernel
theorem dX0_leaps_68 : decode cX0_leaps 68 = .ok (.ireturn, 1) := by decide +kernel
set_option maxRecDepth 20000 in
theorem ggX0_gaps_X6_following : GoodIn wsX0_gaps wsX6_following := goodIn_r _ [10, 11, 12, 13, 14, 18, 19, 20, 21, 22, 23, 24] (by decide +kernel) (by decide +kernel)
set_option maxRecDepth 20000 in
theorem gX0_gaps_X6_following : GoodIn wsX0_gaps (wsV RX0 42 RX6 yX6_following wsX6_following) := goodIn_app (goodIn_of _ (by decide +kernel)) ggX0_gaps_X6_following
theorem dX0_gaps_0 : decode cX0_gaps 0 = .ok (.iconst 0, 1) := by decide +kernel
theorem dX0_gaps_1 : decode cX0_gaps 1 = .ok (.istore_n 1, 1) := by decide +kernel
theorem dX0_gaps_2 : decode cX0_gaps 2 = .ok (.iconst 0, 1) := by decide +kernel
theorem dX0_gaps_3 : decode cX0_gaps 3 = .ok (.istore_n 2, 1) := by decide +kernel
theorem dX0_gaps_4 : decode cX0_gaps 4 = .ok (.iload_n 2, 1) := by decide +kernel
theorem dX0_gaps_5 : decode cX0_gaps 5 = .ok (.aload_n 0, 1) := by decide +kernel
theorem dX0_gaps_6 : decode cX0_gaps 6 = .ok (.getfield 9, 3) := by decide +kernel
theorem dX0_gaps_9 : decode cX0_gaps 9 = .ok (.getfield 36, 3) := by decide +kernel
theorem dX0_gaps_12 : decode cX0_gaps 12 = .ok (.if_icmp .ge 45, 3) := by decide +kernel
theorem dX0_gaps_15 : decode cX0_gaps 15 = .ok (.aload_n 0, 1) := by decide +kernel
theorem dX0_gaps_16 : decode cX0_gaps 16 = .ok (.getfield 9, 3) := by decide +kernel
theorem dX0_gaps_19 : decode cX0_gaps 19 = .ok (.iload_n 2, 1) := by decide +kernel
theorem dX0_gaps_20 : decode cX0_gaps 20 = .ok (.invokevirtual 42, 3) := by decide +kernel
theorem dX0_gaps_23 : decode cX0_gaps 23 = .ok (.istore_n 3, 1) := by decide +kernel
theorem dX0_gaps_24 : decode cX0_gaps 24 = .ok (.iload_n 3, 1) := by decide +kernel
theorem dX0_gaps_25 : decode cX0_gaps 25 = .ok (.iconst (-1), 1) := by decide +kernel
theorem dX0_gaps_26 : decode cX0_gaps 26 = .ok (.if_icmp .eq 25, 3) := by decide +kernel
theorem dX0_gaps_29 : decode cX0_gaps 29 = .ok (.iload_n 1, 1) := by decide +kernel
theorem dX0_gaps_30 : decode cX0_gaps 30 = .ok (.aload_n 0, 1) := by decide +kernel
theorem dX0_gaps_31 : decode cX0_gaps 31 = .ok (.getfield 9, 3) := by decide +kernel
theorem dX0_gaps_34 : decode cX0_gaps 34 = .ok (.getfield 54, 3) := by decide +kernel
theorem dX0_gaps_37 : decode cX0_gaps 37 = .ok (.iload_n 3, 1) := by decide +kernel
theorem dX0_gaps_38 : decode cX0_gaps 38 = .ok (.iaload, 1) := by decide +kernel
theorem dX0_gaps_39 : decode cX0_gaps 39 = .ok (.aload_n 0, 1) := by decide +kernel
theorem dX0_gaps_40 : decode cX0_gaps 40 = .ok (.getfield 9, 3) := by decide +kernel
theorem dX0_gaps_43 : decode cX0_gaps 43 = .ok (.getfield 57, 3) := by decide +kernel
theorem dX0_gaps_46 : decode cX0_gaps 46 = .ok (.iload_n 2, 1) := by decide +kernel
theorem dX0_gaps_47 : decode cX0_gaps 47 = .ok (.iaload, 1) := by decide +kernel
theorem dX0_gaps_48 : decode cX0_gaps 48 = .ok (.isub, 1) := by decide +kernel
theorem dX0_gaps_49 : decode cX0_gaps 49 = .ok (.iadd, 1) := by decide +kernel
theorem dX0_gaps_50 : decode cX0_gaps 50 = .ok (.istore_n 1, 1) := by decide +kernel
theorem dX0_gaps_51 : decode cX0_gaps 51 = .ok (.iinc 2 1, 3) := by decide +kernel
theorem dX0_gaps_54 : decode cX0_gaps 54 = .ok (.goto (-50), 3) := by decide +kernel
theorem dX0_gaps_57 : decode cX0_gaps 57 = .ok (.iload_n 1, 1) := by decide +kernel
theorem dX0_gaps_58 : decode cX0_gaps 58 = .ok (.aload_n 0, 1) := by decide +kernel
theorem dX0_gaps_59 : decode cX0_gaps 59 = .ok (.getfield 15, 3) := by decide +kernel
theorem dX0_gaps_62 : decode cX0_gaps 62 = .ok (.iconst 1, 1) := by decide +kernel
theorem dX0_gaps_63 : decode cX0_gaps 63 = .ok (.iaload, 1) := by decide +kernel
theorem dX0_gaps_64 : decode cX0_gaps 64 = .ok (.imul, 1) := by decide +kernel
theorem dX0_gaps_65 : decode cX0_gaps 65 = .ok (.ireturn, 1) := by decide +kernel
set_option maxRecDepth 20000 in
theorem ggX0_crossings_X4_scan : GoodIn wsX0_crossings wsX4_scan := goodIn_r _ [7, 8, 9, 10, 11, 12, 13, 14, 15, 6, 16, 17, 18, 19, 20, 21, 22, 23, 24, 25, 26, 27, 28, 29, 30, 31, 32, 33, 34, 35, 36, 37, 38, 39, 43, 44, 45, 46, 47, 48, 49, 50, 51, 52] (by decide +kernel) (by decide +kernel)
set_option maxRecDepth 20000 in
theorem gX0_crossings_X4_scan : GoodIn wsX0_crossings (wsV RX0 60 RX4 yX4_scan wsX4_scan) := goodIn_app (goodIn_of _ (by decide +kernel)) ggX0_crossings_X4_scan
theorem dX0_crossings_0 : decode cX0_crossings 0 = .ok (.aload_n 0, 1) := by decide +kernel
theorem dX0_crossings_1 : decode cX0_crossings 1 = .ok (.getfield 19, 3) := by decide +kernel
theorem dX0_crossings_4 : decode cX0_crossings 4 = .ok (.iconst 0, 1) := by decide +kernel
theorem dX0_crossings_5 : decode cX0_crossings 5 = .ok (.iconst (-1), 1) := by decide +kernel
theorem dX0_crossings_6 : decode cX0_crossings 6 = .ok (.invokevirtual 60, 3) := by decide +kernel
theorem dX0_crossings_9 : decode cX0_crossings 9 = .ok (.aload_n 0, 1) := by decide +kernel
theorem dX0_crossings_10 : decode cX0_crossings 10 = .ok (.getfield 15, 3) := by decide +kernel
theorem dX0_crossings_13 : decode cX0_crossings 13 = .ok (.iconst 2, 1) := by decide +kernel
theorem dX0_crossings_14 : decode cX0_crossings 14 = .ok (.iaload, 1) := by decide +kernel
theorem dX0_crossings_15 : decode cX0_crossings 15 = .ok (.imul, 1) := by decide +kernel
theorem dX0_crossings_16 : decode cX0_crossings 16 = .ok (.ireturn, 1) := by decide +kernel
set_option maxRecDepth 20000 in
theorem ggX0_used_X6_voicesUsed : GoodIn wsX0_used wsX6_voicesUsed := goodIn_r _ [7, 8, 9, 10, 6, 11, 12, 13, 17, 18, 19, 20, 21, 22, 23] (by decide +kernel) (by decide +kernel)
set_option maxRecDepth 20000 in
theorem gX0_used_X6_voicesUsed : GoodIn wsX0_used (wsV RX0 66 RX6 yX6_voicesUsed wsX6_voicesUsed) := goodIn_app (goodIn_of _ (by decide +kernel)) ggX0_used_X6_voicesUsed
theorem dX0_used_0 : decode cX0_used 0 = .ok (.aload_n 0, 1) := by decide +kernel
theorem dX0_used_1 : decode cX0_used 1 = .ok (.getfield 9, 3) := by decide +kernel
theorem dX0_used_4 : decode cX0_used 4 = .ok (.invokevirtual 66, 3) := by decide +kernel
theorem dX0_used_7 : decode cX0_used 7 = .ok (.aload_n 0, 1) := by decide +kernel
theorem dX0_used_8 : decode cX0_used 8 = .ok (.getfield 15, 3) := by decide +kernel
theorem dX0_used_11 : decode cX0_used 11 = .ok (.iconst 3, 1) := by decide +kernel
theorem dX0_used_12 : decode cX0_used 12 = .ok (.iaload, 1) := by decide +kernel
theorem dX0_used_13 : decode cX0_used 13 = .ok (.imul, 1) := by decide +kernel
theorem dX0_used_14 : decode cX0_used 14 = .ok (.ireturn, 1) := by decide +kernel
theorem dX1_init_0 : decode cX1_init 0 = .ok (.aload_n 0, 1) := by decide +kernel
theorem dX1_init_1 : decode cX1_init 1 = .ok (.invokespecial 3, 3) := by decide +kernel
theorem dX1_init_4 : decode cX1_init 4 = .ok (.aload_n 0, 1) := by decide +kernel
theorem dX1_init_5 : decode cX1_init 5 = .ok (.iconst 4, 1) := by decide +kernel
theorem dX1_init_6 : decode cX1_init 6 = .ok (.newarray .int, 2) := by decide +kernel
theorem dX1_init_8 : decode cX1_init 8 = .ok (.putfield 9, 3) := by decide +kernel
theorem dX1_init_11 : decode cX1_init 11 = .ok (.aload_n 0, 1) := by decide +kernel
theorem dX1_init_12 : decode cX1_init 12 = .ok (.iconst 0, 1) := by decide +kernel
theorem dX1_init_13 : decode cX1_init 13 = .ok (.newarray .int, 2) := by decide +kernel
theorem dX1_init_15 : decode cX1_init 15 = .ok (.putfield 15, 3) := by decide +kernel
theorem dX1_init_18 : decode cX1_init 18 = .ok (.aload_n 0, 1) := by decide +kernel
theorem dX1_init_19 : decode cX1_init 19 = .ok (.aload_n 1, 1) := by decide +kernel
theorem dX1_init_20 : decode cX1_init 20 = .ok (.putfield 18, 3) := by decide +kernel
theorem dX1_init_23 : decode cX1_init 23 = .ok (.aload_n 0, 1) := by decide +kernel
theorem dX1_init_24 : decode cX1_init 24 = .ok (.aload_n 2, 1) := by decide +kernel
theorem dX1_init_25 : decode cX1_init 25 = .ok (.putfield 22, 3) := by decide +kernel
theorem dX1_init_28 : decode cX1_init 28 = .ok (.return_, 1) := by decide +kernel
set_option maxRecDepth 20000 in
theorem ggX1_search_X1_makeStates : GoodIn wsX1_search wsX1_makeStates := goodIn_r _ [7, 1, 8, 9, 10, 11, 12, 13, 14, 15, 16, 17, 18, 19, 20, 21, 22, 23, 24, 25, 26, 27, 68, 69, 70, 71, 72, 73, 74, 75, 76, 77, 78, 79] (by decide +kernel) (by decide +kernel)
set_option maxRecDepth 20000 in
theorem gX1_search_X1_makeStates : GoodIn wsX1_search (wsV RX1 30 RX1 yX1_makeStates wsX1_makeStates) := goodIn_app (goodIn_of _ (by decide +kernel)) ggX1_search_X1_makeStates
set_option maxRecDepth 20000 in
theorem ggX1_search_X3_empty : GoodIn wsX1_search wsX3_empty := goodIn_r _ [32, 33, 34, 35, 23, 36, 80, 81, 82] (by decide +kernel) (by decide +kernel)
set_option maxRecDepth 20000 in
theorem gX1_search_X3_empty : GoodIn wsX1_search (wsV RX1 33 RX3 yX3_empty wsX3_empty) := goodIn_app (goodIn_of _ (by decide +kernel)) ggX1_search_X3_empty
set_option maxRecDepth 20000 in
theorem ggX1_search_X1_onward : GoodIn wsX1_search wsX1_onward := goodIn_r _ [40, 9, 10, 11, 1, 41, 42, 43, 6, 44, 45, 2, 46, 47, 48, 49, 31, 50, 33, 51, 52, 53, 54, 55, 56, 57, 15, 58, 59, 60, 61, 62, 63, 64, 65, 66, 67, 8, 37, 38, 39, 68, 69, 70, 71, 72, 73, 74, 75, 76, 77, 78, 79, 80, 81, 82] (by decide +kernel) (by decide +kernel)
set_option maxRecDepth 20000 in
theorem gX1_search_X1_onward : GoodIn wsX1_search (wsV RX1 38 RX1 yX1_onward wsX1_onward) := goodIn_app (goodIn_of _ (by decide +kernel)) ggX1_search_X1_onward
theorem dX1_search_0 : decode cX1_search 0 = .ok (.aload_n 0, 1) := by decide +kernel
theorem dX1_search_1 : decode cX1_search 1 = .ok (.iload_n 1, 1) := by decide +kernel
theorem dX1_search_2 : decode cX1_search 2 = .ok (.putfield 26, 3) := by decide +kernel
theorem dX1_search_5 : decode cX1_search 5 = .ok (.aload_n 0, 1) := by decide +kernel
theorem dX1_search_6 : decode cX1_search 6 = .ok (.invokevirtual 30, 3) := by decide +kernel
theorem dX1_search_9 : decode cX1_search 9 = .ok (.aload_n 0, 1) := by decide +kernel
theorem dX1_search_10 : decode cX1_search 10 = .ok (.getfield 22, 3) := by decide +kernel
theorem dX1_search_13 : decode cX1_search 13 = .ok (.invokevirtual 33, 3) := by decide +kernel
theorem dX1_search_16 : decode cX1_search 16 = .ok (.aload_n 0, 1) := by decide +kernel
theorem dX1_search_17 : decode cX1_search 17 = .ok (.iconst 0, 1) := by decide +kernel
theorem dX1_search_18 : decode cX1_search 18 = .ok (.iconst 0, 1) := by decide +kernel
theorem dX1_search_19 : decode cX1_search 19 = .ok (.invokevirtual 38, 3) := by decide +kernel
theorem dX1_search_22 : decode cX1_search 22 = .ok (.ireturn, 1) := by decide +kernel
set_option maxRecDepth 20000 in
theorem ggX1_giveFound_X3_empty : GoodIn wsX1_giveFound wsX3_empty := goodIn_r _ [11, 12, 13, 14, 15, 16, 67, 68, 69] (by decide +kernel) (by decide +kernel)
set_option maxRecDepth 20000 in
theorem gX1_giveFound_X3_empty : GoodIn wsX1_giveFound (wsV RX1 33 RX3 yX3_empty wsX3_empty) := goodIn_app (goodIn_of _ (by decide +kernel)) ggX1_giveFound_X3_empty
set_option maxRecDepth 20000 in
theorem ggX1_giveFound_X1_firstBest : GoodIn wsX1_giveFound wsX1_firstBest := goodIn_r _ [21, 22, 23, 24, 25, 20, 26, 2, 3, 27, 28, 29, 30, 31, 4, 1, 5, 32, 33, 34, 10, 35, 12, 36, 37, 38, 39, 40, 41, 42, 43, 44, 45, 46, 47, 48, 49, 50, 51, 52, 53, 54, 55, 56, 57, 58, 59, 60, 61, 62, 63, 64, 65, 66, 67, 68, 69] (by decide +kernel) (by decide +kernel)
set_option maxRecDepth 20000 in
theorem gX1_giveFound_X1_firstBest : GoodIn wsX1_giveFound (wsV RX1 50 RX1 yX1_firstBest wsX1_firstBest) := goodIn_app (goodIn_of _ (by decide +kernel)) ggX1_giveFound_X1_firstBest
set_option maxRecDepth 20000 in
theorem ggX1_giveFound_X1_stateBehind : GoodIn wsX1_giveFound wsX1_stateBehind := goodIn_r _ [52, 1, 5, 2, 53, 54, 55, 56, 57, 58, 59, 67, 68, 69, 60, 61, 62, 63, 64, 65, 66] (by decide +kernel) (by decide +kernel)
set_option maxRecDepth 20000 in
theorem gX1_giveFound_X1_stateBehind : GoodIn wsX1_giveFound (wsV RX1 53 RX1 yX1_stateBehind wsX1_stateBehind) := goodIn_app (goodIn_of _ (by decide +kernel)) ggX1_giveFound_X1_stateBehind
theorem dX1_giveFound_0 : decode cX1_giveFound 0 = .ok (.aload_n 0, 1) := by decide +kernel
theorem dX1_giveFound_1 : decode cX1_giveFound 1 = .ok (.getfield 22, 3) := by decide +kernel
theorem dX1_giveFound_4 : decode cX1_giveFound 4 = .ok (.invokevirtual 33, 3) := by decide +kernel
theorem dX1_giveFound_7 : decode cX1_giveFound 7 = .ok (.iconst 0, 1) := by decide +kernel
theorem dX1_giveFound_8 : decode cX1_giveFound 8 = .ok (.istore_n 1, 1) := by decide +kernel
theorem dX1_giveFound_9 : decode cX1_giveFound 9 = .ok (.iconst 0, 1) := by decide +kernel
theorem dX1_giveFound_10 : decode cX1_giveFound 10 = .ok (.istore_n 2, 1) := by decide +kernel
theorem dX1_giveFound_11 : decode cX1_giveFound 11 = .ok (.iload_n 2, 1) := by decide +kernel
theorem dX1_giveFound_12 : decode cX1_giveFound 12 = .ok (.aload_n 0, 1) := by decide +kernel
theorem dX1_giveFound_13 : decode cX1_giveFound 13 = .ok (.getfield 18, 3) := by decide +kernel
theorem dX1_giveFound_16 : decode cX1_giveFound 16 = .ok (.getfield 42, 3) := by decide +kernel
theorem dX1_giveFound_19 : decode cX1_giveFound 19 = .ok (.if_icmp .ge 58, 3) := by decide +kernel
theorem dX1_giveFound_22 : decode cX1_giveFound 22 = .ok (.aload_n 0, 1) := by decide +kernel
theorem dX1_giveFound_23 : decode cX1_giveFound 23 = .ok (.getfield 18, 3) := by decide +kernel
theorem dX1_giveFound_26 : decode cX1_giveFound 26 = .ok (.getfield 47, 3) := by decide +kernel
theorem dX1_giveFound_29 : decode cX1_giveFound 29 = .ok (.iload_n 2, 1) := by decide +kernel
theorem dX1_giveFound_30 : decode cX1_giveFound 30 = .ok (.iaload, 1) := by decide +kernel
theorem dX1_giveFound_31 : decode cX1_giveFound 31 = .ok (.istore_n 3, 1) := by decide +kernel
theorem dX1_giveFound_32 : decode cX1_giveFound 32 = .ok (.aload_n 0, 1) := by decide +kernel
theorem dX1_giveFound_33 : decode cX1_giveFound 33 = .ok (.iload_n 2, 1) := by decide +kernel
theorem dX1_giveFound_34 : decode cX1_giveFound 34 = .ok (.iload_n 1, 1) := by decide +kernel
theorem dX1_giveFound_35 : decode cX1_giveFound 35 = .ok (.invokevirtual 50, 3) := by decide +kernel
theorem dX1_giveFound_38 : decode cX1_giveFound 38 = .ok (.istore 4, 2) := by decide +kernel
theorem dX1_giveFound_40 : decode cX1_giveFound 40 = .ok (.aload_n 0, 1) := by decide +kernel
theorem dX1_giveFound_41 : decode cX1_giveFound 41 = .ok (.iload_n 1, 1) := by decide +kernel
theorem dX1_giveFound_42 : decode cX1_giveFound 42 = .ok (.iload_n 2, 1) := by decide +kernel
theorem dX1_giveFound_43 : decode cX1_giveFound 43 = .ok (.iload 4, 2) := by decide +kernel
theorem dX1_giveFound_45 : decode cX1_giveFound 45 = .ok (.invokevirtual 53, 3) := by decide +kernel
theorem dX1_giveFound_48 : decode cX1_giveFound 48 = .ok (.istore_n 1, 1) := by decide +kernel
theorem dX1_giveFound_49 : decode cX1_giveFound 49 = .ok (.aload_n 0, 1) := by decide +kernel
theorem dX1_giveFound_50 : decode cX1_giveFound 50 = .ok (.getfield 22, 3) := by decide +kernel
theorem dX1_giveFound_53 : decode cX1_giveFound 53 = .ok (.getfield 57, 3) := by decide +kernel
theorem dX1_giveFound_56 : decode cX1_giveFound 56 = .ok (.iload 4, 2) := by decide +kernel
theorem dX1_giveFound_58 : decode cX1_giveFound 58 = .ok (.iload_n 3, 1) := by decide +kernel
theorem dX1_giveFound_59 : decode cX1_giveFound 59 = .ok (.iastore, 1) := by decide +kernel
theorem dX1_giveFound_60 : decode cX1_giveFound 60 = .ok (.aload_n 0, 1) := by decide +kernel
theorem dX1_giveFound_61 : decode cX1_giveFound 61 = .ok (.getfield 18, 3) := by decide +kernel
theorem dX1_giveFound_64 : decode cX1_giveFound 64 = .ok (.getfield 60, 3) := by decide +kernel
theorem dX1_giveFound_67 : decode cX1_giveFound 67 = .ok (.iload_n 3, 1) := by decide +kernel
theorem dX1_giveFound_68 : decode cX1_giveFound 68 = .ok (.iload 4, 2) := by decide +kernel
theorem dX1_giveFound_70 : decode cX1_giveFound 70 = .ok (.iastore, 1) := by decide +kernel
theorem dX1_giveFound_71 : decode cX1_giveFound 71 = .ok (.iinc 2 1, 3) := by decide +kernel
theorem dX1_giveFound_74 : decode cX1_giveFound 74 = .ok (.goto (-63), 3) := by decide +kernel
theorem dX1_giveFound_77 : decode cX1_giveFound 77 = .ok (.return_, 1) := by decide +kernel
set_option maxRecDepth 20000 in
theorem ggX1_makeStates_J7_fill_fda19 : GoodIn wsX1_makeStates wsJ7_fill_fda19 := goodIn_r _ [18, 19, 20, 17, 21] (by decide +kernel) (by decide +kernel)
set_option maxRecDepth 20000 in
theorem gX1_makeStates_J7_fill_fda19 : GoodIn wsX1_makeStates (va_wsS RX1 72 yJ7_fill_fda19 wsJ7_fill_fda19) := goodIn_app (goodIn_of _ (by decide +kernel)) ggX1_makeStates_J7_fill_fda19
theorem dX1_makeStates_0 : decode cX1_makeStates 0 = .ok (.iconst 1, 1) := by decide +kernel
theorem dX1_makeStates_1 : decode cX1_makeStates 1 = .ok (.istore_n 1, 1) := by decide +kernel
theorem dX1_makeStates_2 : decode cX1_makeStates 2 = .ok (.iconst 0, 1) := by decide +kernel
theorem dX1_makeStates_3 : decode cX1_makeStates 3 = .ok (.istore_n 2, 1) := by decide +kernel
theorem dX1_makeStates_4 : decode cX1_makeStates 4 = .ok (.iload_n 2, 1) := by decide +kernel
theorem dX1_makeStates_5 : decode cX1_makeStates 5 = .ok (.aload_n 0, 1) := by decide +kernel
theorem dX1_makeStates_6 : decode cX1_makeStates 6 = .ok (.getfield 26, 3) := by decide +kernel
theorem dX1_makeStates_9 : decode cX1_makeStates 9 = .ok (.if_icmp .ge 26, 3) := by decide +kernel
theorem dX1_makeStates_12 : decode cX1_makeStates 12 = .ok (.aload_n 0, 1) := by decide +kernel
theorem dX1_makeStates_13 : decode cX1_makeStates 13 = .ok (.getfield 9, 3) := by decide +kernel
theorem dX1_makeStates_16 : decode cX1_makeStates 16 = .ok (.iload_n 2, 1) := by decide +kernel
theorem dX1_makeStates_17 : decode cX1_makeStates 17 = .ok (.iload_n 1, 1) := by decide +kernel
theorem dX1_makeStates_18 : decode cX1_makeStates 18 = .ok (.iastore, 1) := by decide +kernel
theorem dX1_makeStates_19 : decode cX1_makeStates 19 = .ok (.iload_n 1, 1) := by decide +kernel
theorem dX1_makeStates_20 : decode cX1_makeStates 20 = .ok (.aload_n 0, 1) := by decide +kernel
theorem dX1_makeStates_21 : decode cX1_makeStates 21 = .ok (.getfield 18, 3) := by decide +kernel
theorem dX1_makeStates_24 : decode cX1_makeStates 24 = .ok (.getfield 42, 3) := by decide +kernel
theorem dX1_makeStates_27 : decode cX1_makeStates 27 = .ok (.imul, 1) := by decide +kernel
theorem dX1_makeStates_28 : decode cX1_makeStates 28 = .ok (.istore_n 1, 1) := by decide +kernel
theorem dX1_makeStates_29 : decode cX1_makeStates 29 = .ok (.iinc 2 1, 3) := by decide +kernel
theorem dX1_makeStates_32 : decode cX1_makeStates 32 = .ok (.goto (-28), 3) := by decide +kernel
theorem dX1_makeStates_35 : decode cX1_makeStates 35 = .ok (.iload_n 1, 1) := by decide +kernel
theorem dX1_makeStates_36 : decode cX1_makeStates 36 = .ok (.aload_n 0, 1) := by decide +kernel
theorem dX1_makeStates_37 : decode cX1_makeStates 37 = .ok (.getfield 15, 3) := by decide +kernel
theorem dX1_makeStates_40 : decode cX1_makeStates 40 = .ok (.arraylength, 1) := by decide +kernel
theorem dX1_makeStates_41 : decode cX1_makeStates 41 = .ok (.if_icmp .le 25, 3) := by decide +kernel
theorem dX1_makeStates_44 : decode cX1_makeStates 44 = .ok (.aload_n 0, 1) := by decide +kernel
theorem dX1_makeStates_45 : decode cX1_makeStates 45 = .ok (.ldc 63, 2) := by decide +kernel
theorem dX1_makeStates_47 : decode cX1_makeStates 47 = .ok (.iload_n 1, 1) := by decide +kernel
theorem dX1_makeStates_48 : decode cX1_makeStates 48 = .ok (.iconst 2, 1) := by decide +kernel
theorem dX1_makeStates_49 : decode cX1_makeStates 49 = .ok (.aload_n 0, 1) := by decide +kernel
theorem dX1_makeStates_50 : decode cX1_makeStates 50 = .ok (.getfield 15, 3) := by decide +kernel
theorem dX1_makeStates_53 : decode cX1_makeStates 53 = .ok (.arraylength, 1) := by decide +kernel
theorem dX1_makeStates_54 : decode cX1_makeStates 54 = .ok (.imul, 1) := by decide +kernel
theorem dX1_makeStates_55 : decode cX1_makeStates 55 = .ok (.invokestatic 64, 3) := by decide +kernel
theorem dX1_makeStates_58 : decode cX1_makeStates 58 = .ok (.invokestatic 69, 3) := by decide +kernel
theorem dX1_makeStates_61 : decode cX1_makeStates 61 = .ok (.newarray .int, 2) := by decide +kernel
theorem dX1_makeStates_63 : decode cX1_makeStates 63 = .ok (.putfield 15, 3) := by decide +kernel
theorem dX1_makeStates_66 : decode cX1_makeStates 66 = .ok (.aload_n 0, 1) := by decide +kernel
theorem dX1_makeStates_67 : decode cX1_makeStates 67 = .ok (.getfield 15, 3) := by decide +kernel
theorem dX1_makeStates_70 : decode cX1_makeStates 70 = .ok (.iconst 0, 1) := by decide +kernel
theorem dX1_makeStates_71 : decode cX1_makeStates 71 = .ok (.iload_n 1, 1) := by decide +kernel
theorem dX1_makeStates_72 : decode cX1_makeStates 72 = .ok (.bipush (-2), 2) := by decide +kernel
theorem dX1_makeStates_74 : decode cX1_makeStates 74 = .ok (.invokestatic 72, 3) := by decide +kernel
theorem dX1_makeStates_77 : decode cX1_makeStates 77 = .ok (.return_, 1) := by decide +kernel
set_option maxRecDepth 20000 in
theorem ggX1_onward_X1_through : GoodIn wsX1_onward wsX1_through := goodIn_r _ [9, 1, 10, 11, 12, 13, 14, 15, 16, 17, 18, 19, 20, 21, 22, 23, 24, 25, 26, 27, 28, 29, 30, 31, 32, 33, 34, 8, 35, 36, 37, 38, 39, 40, 0, 2, 3, 4, 5, 6, 7, 41, 42, 43, 44, 45, 46, 47, 48, 49, 50, 51, 52, 53, 54, 55] (by decide +kernel) (by decide +kernel)
set_option maxRecDepth 20000 in
theorem gX1_onward_X1_through : GoodIn wsX1_onward (wsV RX1 78 RX1 yX1_through wsX1_through) := goodIn_app (goodIn_of _ (by decide +kernel)) ggX1_onward_X1_through
theorem dX1_onward_0 : decode cX1_onward 0 = .ok (.iload_n 1, 1) := by decide +kernel
theorem dX1_onward_1 : decode cX1_onward 1 = .ok (.aload_n 0, 1) := by decide +kernel
theorem dX1_onward_2 : decode cX1_onward 2 = .ok (.getfield 18, 3) := by decide +kernel
theorem dX1_onward_5 : decode cX1_onward 5 = .ok (.getfield 42, 3) := by decide +kernel
theorem dX1_onward_8 : decode cX1_onward 8 = .ok (.if_icmp .lt 5, 3) := by decide +kernel
theorem dX1_onward_11 : decode cX1_onward 11 = .ok (.iconst 0, 1) := by decide +kernel
theorem dX1_onward_12 : decode cX1_onward 12 = .ok (.ireturn, 1) := by decide +kernel
theorem dX1_onward_13 : decode cX1_onward 13 = .ok (.aload_n 0, 1) := by decide +kernel
theorem dX1_onward_14 : decode cX1_onward 14 = .ok (.getfield 15, 3) := by decide +kernel
theorem dX1_onward_17 : decode cX1_onward 17 = .ok (.iload_n 2, 1) := by decide +kernel
theorem dX1_onward_18 : decode cX1_onward 18 = .ok (.iaload, 1) := by decide +kernel
theorem dX1_onward_19 : decode cX1_onward 19 = .ok (.bipush (-2), 2) := by decide +kernel
theorem dX1_onward_21 : decode cX1_onward 21 = .ok (.if_icmp .eq 10, 3) := by decide +kernel
theorem dX1_onward_24 : decode cX1_onward 24 = .ok (.aload_n 0, 1) := by decide +kernel
theorem dX1_onward_25 : decode cX1_onward 25 = .ok (.getfield 15, 3) := by decide +kernel
theorem dX1_onward_28 : decode cX1_onward 28 = .ok (.iload_n 2, 1) := by decide +kernel
theorem dX1_onward_29 : decode cX1_onward 29 = .ok (.iaload, 1) := by decide +kernel
theorem dX1_onward_30 : decode cX1_onward 30 = .ok (.ireturn, 1) := by decide +kernel
theorem dX1_onward_31 : decode cX1_onward 31 = .ok (.iconst (-1), 1) := by decide +kernel
theorem dX1_onward_32 : decode cX1_onward 32 = .ok (.istore_n 3, 1) := by decide +kernel
theorem dX1_onward_33 : decode cX1_onward 33 = .ok (.iconst 0, 1) := by decide +kernel
theorem dX1_onward_34 : decode cX1_onward 34 = .ok (.istore 4, 2) := by decide +kernel
theorem dX1_onward_36 : decode cX1_onward 36 = .ok (.iload 4, 2) := by decide +kernel
theorem dX1_onward_38 : decode cX1_onward 38 = .ok (.aload_n 0, 1) := by decide +kernel
theorem dX1_onward_39 : decode cX1_onward 39 = .ok (.getfield 26, 3) := by decide +kernel
theorem dX1_onward_42 : decode cX1_onward 42 = .ok (.if_icmp .ge 39, 3) := by decide +kernel
theorem dX1_onward_45 : decode cX1_onward 45 = .ok (.aload_n 0, 1) := by decide +kernel
theorem dX1_onward_46 : decode cX1_onward 46 = .ok (.iload 4, 2) := by decide +kernel
theorem dX1_onward_48 : decode cX1_onward 48 = .ok (.iload_n 1, 1) := by decide +kernel
theorem dX1_onward_49 : decode cX1_onward 49 = .ok (.iload_n 2, 1) := by decide +kernel
theorem dX1_onward_50 : decode cX1_onward 50 = .ok (.invokevirtual 78, 3) := by decide +kernel
theorem dX1_onward_53 : decode cX1_onward 53 = .ok (.istore 5, 2) := by decide +kernel
theorem dX1_onward_55 : decode cX1_onward 55 = .ok (.iload 5, 2) := by decide +kernel
theorem dX1_onward_57 : decode cX1_onward 57 = .ok (.iconst (-1), 1) := by decide +kernel
theorem dX1_onward_58 : decode cX1_onward 58 = .ok (.if_icmp .eq 17, 3) := by decide +kernel
theorem dX1_onward_61 : decode cX1_onward 61 = .ok (.iload_n 3, 1) := by decide +kernel
theorem dX1_onward_62 : decode cX1_onward 62 = .ok (.iconst (-1), 1) := by decide +kernel
theorem dX1_onward_63 : decode cX1_onward 63 = .ok (.if_icmp .eq 9, 3) := by decide +kernel
theorem dX1_onward_66 : decode cX1_onward 66 = .ok (.iload 5, 2) := by decide +kernel
theorem dX1_onward_68 : decode cX1_onward 68 = .ok (.iload_n 3, 1) := by decide +kernel
theorem dX1_onward_69 : decode cX1_onward 69 = .ok (.if_icmp .ge 6, 3) := by decide +kernel
theorem dX1_onward_72 : decode cX1_onward 72 = .ok (.iload 5, 2) := by decide +kernel
theorem dX1_onward_74 : decode cX1_onward 74 = .ok (.istore_n 3, 1) := by decide +kernel
theorem dX1_onward_75 : decode cX1_onward 75 = .ok (.iinc 4 1, 3) := by decide +kernel
theorem dX1_onward_78 : decode cX1_onward 78 = .ok (.goto (-42), 3) := by decide +kernel
theorem dX1_onward_81 : decode cX1_onward 81 = .ok (.aload_n 0, 1) := by decide +kernel
theorem dX1_onward_82 : decode cX1_onward 82 = .ok (.getfield 15, 3) := by decide +kernel
theorem dX1_onward_85 : decode cX1_onward 85 = .ok (.iload_n 2, 1) := by decide +kernel
theorem dX1_onward_86 : decode cX1_onward 86 = .ok (.iload_n 3, 1) := by decide +kernel
theorem dX1_onward_87 : decode cX1_onward 87 = .ok (.iastore, 1) := by decide +kernel
theorem dX1_onward_88 : decode cX1_onward 88 = .ok (.iload_n 3, 1) := by decide +kernel
theorem dX1_onward_89 : decode cX1_onward 89 = .ok (.ireturn, 1) := by decide +kernel
set_option maxRecDepth 20000 in
theorem ggX1_through_X3_added : GoodIn wsX1_through wsX3_added := goodIn_r _ [9, 10, 11, 12, 13, 14, 15, 16, 17, 18, 19, 20, 21, 22, 8, 23, 53, 54, 55, 46, 47, 48, 49, 50, 51, 52] (by decide +kernel) (by decide +kernel)
set_option maxRecDepth 20000 in
theorem gX1_through_X3_added : GoodIn wsX1_through (wsV RX1 81 RX3 yX3_added wsX3_added) := goodIn_app (goodIn_of _ (by decide +kernel)) ggX1_through_X3_added
set_option maxRecDepth 20000 in
theorem ggX1_through_X1_stateBehind : GoodIn wsX1_through wsX1_stateBehind := goodIn_r _ [28, 3, 4, 1, 29, 30, 41, 42, 43, 44, 45, 53, 54, 55, 46, 47, 48, 49, 50, 51, 52] (by decide +kernel) (by decide +kernel)
set_option maxRecDepth 20000 in
theorem gX1_through_X1_stateBehind : GoodIn wsX1_through (wsV RX1 53 RX1 yX1_stateBehind wsX1_stateBehind) := goodIn_app (goodIn_of _ (by decide +kernel)) ggX1_through_X1_stateBehind
set_option maxRecDepth 20000 in
theorem ggX1_through_X1_onward : GoodIn wsX1_through wsX1_onward := goodIn_r _ [34, 1, 35, 36, 37, 38, 39, 40, 27, 0, 2, 3, 4, 5, 6, 7, 8, 9, 10, 11, 12, 13, 14, 15, 16, 17, 18, 19, 20, 21, 22, 23, 24, 25, 26, 28, 29, 30, 31, 32, 33, 41, 42, 43, 44, 45, 46, 47, 48, 49, 50, 51, 52, 53, 54, 55] (by decide +kernel) (by decide +kernel)
set_option maxRecDepth 20000 in
theorem gX1_through_X1_onward : GoodIn wsX1_through (wsV RX1 38 RX1 yX1_onward wsX1_onward) := goodIn_app (goodIn_of _ (by decide +kernel)) ggX1_through_X1_onward
theorem dX1_through_0 : decode cX1_through 0 = .ok (.aload_n 0, 1) := by decide +kernel
theorem dX1_through_1 : decode cX1_through 1 = .ok (.getfield 18, 3) := by decide +kernel
theorem dX1_through_4 : decode cX1_through 4 = .ok (.getfield 47, 3) := by decide +kernel
theorem dX1_through_7 : decode cX1_through 7 = .ok (.iload_n 2, 1) := by decide +kernel
theorem dX1_through_8 : decode cX1_through 8 = .ok (.iaload, 1) := by decide +kernel
theorem dX1_through_9 : decode cX1_through 9 = .ok (.istore 4, 2) := by decide +kernel
theorem dX1_through_11 : decode cX1_through 11 = .ok (.aload_n 0, 1) := by decide +kernel
theorem dX1_through_12 : decode cX1_through 12 = .ok (.getfield 22, 3) := by decide +kernel
theorem dX1_through_15 : decode cX1_through 15 = .ok (.iload 4, 2) := by decide +kernel
theorem dX1_through_17 : decode cX1_through 17 = .ok (.iload_n 1, 1) := by decide +kernel
theorem dX1_through_18 : decode cX1_through 18 = .ok (.invokevirtual 81, 3) := by decide +kernel
theorem dX1_through_21 : decode cX1_through 21 = .ok (.istore 5, 2) := by decide +kernel
theorem dX1_through_23 : decode cX1_through 23 = .ok (.iload 5, 2) := by decide +kernel
theorem dX1_through_25 : decode cX1_through 25 = .ok (.iconst (-1), 1) := by decide +kernel
theorem dX1_through_26 : decode cX1_through 26 = .ok (.if_icmp .ne 5, 3) := by decide +kernel
theorem dX1_through_29 : decode cX1_through 29 = .ok (.iconst (-1), 1) := by decide +kernel
theorem dX1_through_30 : decode cX1_through 30 = .ok (.ireturn, 1) := by decide +kernel
theorem dX1_through_31 : decode cX1_through 31 = .ok (.aload_n 0, 1) := by decide +kernel
theorem dX1_through_32 : decode cX1_through 32 = .ok (.iload_n 3, 1) := by decide +kernel
theorem dX1_through_33 : decode cX1_through 33 = .ok (.iload_n 2, 1) := by decide +kernel
theorem dX1_through_34 : decode cX1_through 34 = .ok (.iload_n 1, 1) := by decide +kernel
theorem dX1_through_35 : decode cX1_through 35 = .ok (.invokevirtual 53, 3) := by decide +kernel
theorem dX1_through_38 : decode cX1_through 38 = .ok (.istore 6, 2) := by decide +kernel
theorem dX1_through_40 : decode cX1_through 40 = .ok (.aload_n 0, 1) := by decide +kernel
theorem dX1_through_41 : decode cX1_through 41 = .ok (.getfield 22, 3) := by decide +kernel
theorem dX1_through_44 : decode cX1_through 44 = .ok (.getfield 57, 3) := by decide +kernel
theorem dX1_through_47 : decode cX1_through 47 = .ok (.iload_n 1, 1) := by decide +kernel
theorem dX1_through_48 : decode cX1_through 48 = .ok (.iaload, 1) := by decide +kernel
theorem dX1_through_49 : decode cX1_through 49 = .ok (.istore 7, 2) := by decide +kernel
theorem dX1_through_51 : decode cX1_through 51 = .ok (.aload_n 0, 1) := by decide +kernel
theorem dX1_through_52 : decode cX1_through 52 = .ok (.getfield 22, 3) := by decide +kernel
theorem dX1_through_55 : decode cX1_through 55 = .ok (.getfield 57, 3) := by decide +kernel
theorem dX1_through_58 : decode cX1_through 58 = .ok (.iload_n 1, 1) := by decide +kernel
theorem dX1_through_59 : decode cX1_through 59 = .ok (.iload 4, 2) := by decide +kernel
theorem dX1_through_61 : decode cX1_through 61 = .ok (.iastore, 1) := by decide +kernel
theorem dX1_through_62 : decode cX1_through 62 = .ok (.aload_n 0, 1) := by decide +kernel
theorem dX1_through_63 : decode cX1_through 63 = .ok (.iload_n 2, 1) := by decide +kernel
theorem dX1_through_64 : decode cX1_through 64 = .ok (.iconst 1, 1) := by decide +kernel
theorem dX1_through_65 : decode cX1_through 65 = .ok (.iadd, 1) := by decide +kernel
theorem dX1_through_66 : decode cX1_through 66 = .ok (.iload 6, 2) := by decide +kernel
theorem dX1_through_68 : decode cX1_through 68 = .ok (.invokevirtual 38, 3) := by decide +kernel
theorem dX1_through_71 : decode cX1_through 71 = .ok (.istore 8, 2) := by decide +kernel
theorem dX1_through_73 : decode cX1_through 73 = .ok (.aload_n 0, 1) := by decide +kernel
theorem dX1_through_74 : decode cX1_through 74 = .ok (.getfield 22, 3) := by decide +kernel
theorem dX1_through_77 : decode cX1_through 77 = .ok (.getfield 57, 3) := by decide +kernel
theorem dX1_through_80 : decode cX1_through 80 = .ok (.iload_n 1, 1) := by decide +kernel
theorem dX1_through_81 : decode cX1_through 81 = .ok (.iload 7, 2) := by decide +kernel
theorem dX1_through_83 : decode cX1_through 83 = .ok (.iastore, 1) := by decide +kernel
theorem dX1_through_84 : decode cX1_through 84 = .ok (.iload 8, 2) := by decide +kernel
theorem dX1_through_86 : decode cX1_through 86 = .ok (.iconst (-1), 1) := by decide +kernel
theorem dX1_through_87 : decode cX1_through 87 = .ok (.if_icmp .ne 7, 3) := by decide +kernel
theorem dX1_through_90 : decode cX1_through 90 = .ok (.iconst (-1), 1) := by decide +kernel
theorem dX1_through_91 : decode cX1_through 91 = .ok (.goto 8, 3) := by decide +kernel
theorem dX1_through_94 : decode cX1_through 94 = .ok (.iload 5, 2) := by decide +kernel
theorem dX1_through_96 : decode cX1_through 96 = .ok (.iload 8, 2) := by decide +kernel
theorem dX1_through_98 : decode cX1_through 98 = .ok (.iadd, 1) := by decide +kernel
theorem dX1_through_99 : decode cX1_through 99 = .ok (.ireturn, 1) := by decide +kernel
theorem dX1_stateBehind_0 : decode cX1_stateBehind 0 = .ok (.aload_n 0, 1) := by decide +kernel
theorem dX1_stateBehind_1 : decode cX1_stateBehind 1 = .ok (.getfield 22, 3) := by decide +kernel
theorem dX1_stateBehind_4 : decode cX1_stateBehind 4 = .ok (.getfield 57, 3) := by decide +kernel
theorem dX1_stateBehind_7 : decode cX1_stateBehind 7 = .ok (.iload_n 3, 1) := by decide +kernel
theorem dX1_stateBehind_8 : decode cX1_stateBehind 8 = .ok (.iaload, 1) := by decide +kernel
theorem dX1_stateBehind_9 : decode cX1_stateBehind 9 = .ok (.istore 4, 2) := by decide +kernel
theorem dX1_stateBehind_11 : decode cX1_stateBehind 11 = .ok (.iload 4, 2) := by decide +kernel
theorem dX1_stateBehind_13 : decode cX1_stateBehind 13 = .ok (.iconst (-1), 1) := by decide +kernel
theorem dX1_stateBehind_14 : decode cX1_stateBehind 14 = .ok (.if_icmp .ne 7, 3) := by decide +kernel
theorem dX1_stateBehind_17 : decode cX1_stateBehind 17 = .ok (.iconst 0, 1) := by decide +kernel
theorem dX1_stateBehind_18 : decode cX1_stateBehind 18 = .ok (.goto 15, 3) := by decide +kernel
theorem dX1_stateBehind_21 : decode cX1_stateBehind 21 = .ok (.aload_n 0, 1) := by decide +kernel
theorem dX1_stateBehind_22 : decode cX1_stateBehind 22 = .ok (.getfield 18, 3) := by decide +kernel
theorem dX1_stateBehind_25 : decode cX1_stateBehind 25 = .ok (.getfield 84, 3) := by decide +kernel
theorem dX1_stateBehind_28 : decode cX1_stateBehind 28 = .ok (.iload 4, 2) := by decide +kernel
theorem dX1_stateBehind_30 : decode cX1_stateBehind 30 = .ok (.iaload, 1) := by decide +kernel
theorem dX1_stateBehind_31 : decode cX1_stateBehind 31 = .ok (.iconst 1, 1) := by decide +kernel
theorem dX1_stateBehind_32 : decode cX1_stateBehind 32 = .ok (.iadd, 1) := by decide +kernel
theorem dX1_stateBehind_33 : decode cX1_stateBehind 33 = .ok (.istore 5, 2) := by decide +kernel
theorem dX1_stateBehind_35 : decode cX1_stateBehind 35 = .ok (.iload_n 1, 1) := by decide +kernel
theorem dX1_stateBehind_36 : decode cX1_stateBehind 36 = .ok (.iload_n 2, 1) := by decide +kernel
theorem dX1_stateBehind_37 : decode cX1_stateBehind 37 = .ok (.iconst 1, 1) := by decide +kernel
theorem dX1_stateBehind_38 : decode cX1_stateBehind 38 = .ok (.iadd, 1) := by decide +kernel
theorem dX1_stateBehind_39 : decode cX1_stateBehind 39 = .ok (.iload 5, 2) := by decide +kernel
theorem dX1_stateBehind_41 : decode cX1_stateBehind 41 = .ok (.isub, 1) := by decide +kernel
theorem dX1_stateBehind_42 : decode cX1_stateBehind 42 = .ok (.aload_n 0, 1) := by decide +kernel
theorem dX1_stateBehind_43 : decode cX1_stateBehind 43 = .ok (.getfield 9, 3) := by decide +kernel
theorem dX1_stateBehind_46 : decode cX1_stateBehind 46 = .ok (.iload_n 3, 1) := by decide +kernel
theorem dX1_stateBehind_47 : decode cX1_stateBehind 47 = .ok (.iaload, 1) := by decide +kernel
theorem dX1_stateBehind_48 : decode cX1_stateBehind 48 = .ok (.imul, 1) := by decide +kernel
theorem dX1_stateBehind_49 : decode cX1_stateBehind 49 = .ok (.iadd, 1) := by decide +kernel
theorem dX1_stateBehind_50 : decode cX1_stateBehind 50 = .ok (.ireturn, 1) := by decide +kernel
set_option maxRecDepth 20000 in
theorem ggX1_firstBest_X1_onward : GoodIn wsX1_firstBest wsX1_onward := goodIn_r _ [6, 7, 8, 9, 1, 10, 11, 12, 5, 13, 14, 15, 16, 17, 18, 19, 20, 21, 22, 23, 24, 25, 26, 27, 28, 29, 30, 31, 32, 33, 34, 35, 36, 37, 38, 39, 40, 41, 2, 3, 4, 42, 43, 44, 45, 46, 47, 48, 49, 50, 51, 52, 53, 54, 55, 56] (by decide +kernel) (by decide +kernel)
set_option maxRecDepth 20000 in
theorem gX1_firstBest_X1_onward : GoodIn wsX1_firstBest (wsV RX1 38 RX1 yX1_onward wsX1_onward) := goodIn_app (goodIn_of _ (by decide +kernel)) ggX1_firstBest_X1_onward
set_option maxRecDepth 20000 in
theorem ggX1_firstBest_X1_through : GoodIn wsX1_firstBest wsX1_through := goodIn_r _ [13, 7, 14, 15, 16, 17, 18, 19, 20, 21, 22, 23, 24, 25, 26, 27, 28, 29, 30, 31, 32, 33, 34, 35, 36, 37, 38, 5, 39, 40, 41, 2, 3, 4, 6, 8, 9, 1, 10, 11, 12, 42, 43, 44, 45, 46, 47, 48, 49, 50, 51, 52, 53, 54, 55, 56] (by decide +kernel) (by decide +kernel)
set_option maxRecDepth 20000 in
theorem gX1_firstBest_X1_through : GoodIn wsX1_firstBest (wsV RX1 78 RX1 yX1_through wsX1_through) := goodIn_app (goodIn_of _ (by decide +kernel)) ggX1_firstBest_X1_through
theorem dX1_firstBest_0 : decode cX1_firstBest 0 = .ok (.aload_n 0, 1) := by decide +kernel
theorem dX1_firstBest_1 : decode cX1_firstBest 1 = .ok (.iload_n 1, 1) := by decide +kernel
theorem dX1_firstBest_2 : decode cX1_firstBest 2 = .ok (.iload_n 2, 1) := by decide +kernel
theorem dX1_firstBest_3 : decode cX1_firstBest 3 = .ok (.invokevirtual 38, 3) := by decide +kernel
theorem dX1_firstBest_6 : decode cX1_firstBest 6 = .ok (.istore_n 3, 1) := by decide +kernel
theorem dX1_firstBest_7 : decode cX1_firstBest 7 = .ok (.iconst 0, 1) := by decide +kernel
theorem dX1_firstBest_8 : decode cX1_firstBest 8 = .ok (.istore 4, 2) := by decide +kernel
theorem dX1_firstBest_10 : decode cX1_firstBest 10 = .ok (.aload_n 0, 1) := by decide +kernel
theorem dX1_firstBest_11 : decode cX1_firstBest 11 = .ok (.getfield 26, 3) := by decide +kernel
theorem dX1_firstBest_14 : decode cX1_firstBest 14 = .ok (.iconst 1, 1) := by decide +kernel
theorem dX1_firstBest_15 : decode cX1_firstBest 15 = .ok (.isub, 1) := by decide +kernel
theorem dX1_firstBest_16 : decode cX1_firstBest 16 = .ok (.istore 5, 2) := by decide +kernel
theorem dX1_firstBest_18 : decode cX1_firstBest 18 = .ok (.iload 5, 2) := by decide +kernel
theorem dX1_firstBest_20 : decode cX1_firstBest 20 = .ok (.ifCond .lt 25, 3) := by decide +kernel
theorem dX1_firstBest_23 : decode cX1_firstBest 23 = .ok (.aload_n 0, 1) := by decide +kernel
theorem dX1_firstBest_24 : decode cX1_firstBest 24 = .ok (.iload 5, 2) := by decide +kernel
theorem dX1_firstBest_26 : decode cX1_firstBest 26 = .ok (.iload_n 1, 1) := by decide +kernel
theorem dX1_firstBest_27 : decode cX1_firstBest 27 = .ok (.iload_n 2, 1) := by decide +kernel
theorem dX1_firstBest_28 : decode cX1_firstBest 28 = .ok (.invokevirtual 78, 3) := by decide +kernel
theorem dX1_firstBest_31 : decode cX1_firstBest 31 = .ok (.iload_n 3, 1) := by decide +kernel
theorem dX1_firstBest_32 : decode cX1_firstBest 32 = .ok (.if_icmp .ne 7, 3) := by decide +kernel
theorem dX1_firstBest_35 : decode cX1_firstBest 35 = .ok (.iload 5, 2) := by decide +kernel
theorem dX1_firstBest_37 : decode cX1_firstBest 37 = .ok (.istore 4, 2) := by decide +kernel
theorem dX1_firstBest_39 : decode cX1_firstBest 39 = .ok (.iinc 5 (-1), 3) := by decide +kernel
theorem dX1_firstBest_42 : decode cX1_firstBest 42 = .ok (.goto (-24), 3) := by decide +kernel
theorem dX1_firstBest_45 : decode cX1_firstBest 45 = .ok (.iload 4, 2) := by decide +kernel
theorem dX1_firstBest_47 : decode cX1_firstBest 47 = .ok (.ireturn, 1) := by decide +kernel
theorem dX2_init_0 : decode cX2_init 0 = .ok (.aload_n 0, 1) := by decide +kernel
theorem dX2_init_1 : decode cX2_init 1 = .ok (.invokespecial 3, 3) := by decide +kernel
theorem dX2_init_4 : decode cX2_init 4 = .ok (.aload_n 0, 1) := by decide +kernel
theorem dX2_init_5 : decode cX2_init 5 = .ok (.bipush 60, 2) := by decide +kernel
theorem dX2_init_7 : decode cX2_init 7 = .ok (.newarray .int, 2) := by decide +kernel
theorem dX2_init_9 : decode cX2_init 9 = .ok (.putfield 9, 3) := by decide +kernel
theorem dX2_init_12 : decode cX2_init 12 = .ok (.aload_n 0, 1) := by decide +kernel
theorem dX2_init_13 : decode cX2_init 13 = .ok (.aload_n 1, 1) := by decide +kernel
theorem dX2_init_14 : decode cX2_init 14 = .ok (.putfield 15, 3) := by decide +kernel
theorem dX2_init_17 : decode cX2_init 17 = .ok (.aload_n 0, 1) := by decide +kernel
theorem dX2_init_18 : decode cX2_init 18 = .ok (.aload_n 2, 1) := by decide +kernel
theorem dX2_init_19 : decode cX2_init 19 = .ok (.putfield 19, 3) := by decide +kernel
theorem dX2_init_22 : decode cX2_init 22 = .ok (.return_, 1) := by decide +kernel
set_option maxRecDepth 20000 in
theorem ggX2_go_X3_empty : GoodIn wsX2_go wsX3_empty := goodIn_r _ [16, 17, 18, 19, 20, 21, 54, 55, 56] (by decide +kernel) (by decide +kernel)
set_option maxRecDepth 20000 in
theorem gX2_go_X3_empty : GoodIn wsX2_go (wsV RX2 23 RX3 yX3_empty wsX3_empty) := goodIn_app (goodIn_of _ (by decide +kernel)) ggX2_go_X3_empty
set_option maxRecDepth 20000 in
theorem ggX2_go_X2_cheapest : GoodIn wsX2_go wsX2_cheapest := goodIn_r _ [26, 1, 27, 28, 29, 15, 30, 17, 31, 32, 33, 34, 35, 36, 37, 38, 39, 40, 41, 42, 43, 44, 45, 46, 54, 55, 56, 47, 48, 49, 50, 51, 52, 53] (by decide +kernel) (by decide +kernel)
set_option maxRecDepth 20000 in
theorem gX2_go_X2_cheapest : GoodIn wsX2_go (wsV RX2 37 RX2 yX2_cheapest wsX2_cheapest) := goodIn_app (goodIn_of _ (by decide +kernel)) ggX2_go_X2_cheapest
theorem dX2_go_0 : decode cX2_go 0 = .ok (.aload_n 0, 1) := by decide +kernel
theorem dX2_go_1 : decode cX2_go 1 = .ok (.getfield 19, 3) := by decide +kernel
theorem dX2_go_4 : decode cX2_go 4 = .ok (.invokevirtual 23, 3) := by decide +kernel
theorem dX2_go_7 : decode cX2_go 7 = .ok (.iconst 0, 1) := by decide +kernel
theorem dX2_go_8 : decode cX2_go 8 = .ok (.istore_n 2, 1) := by decide +kernel
theorem dX2_go_9 : decode cX2_go 9 = .ok (.iload_n 2, 1) := by decide +kernel
theorem dX2_go_10 : decode cX2_go 10 = .ok (.aload_n 0, 1) := by decide +kernel
theorem dX2_go_11 : decode cX2_go 11 = .ok (.getfield 15, 3) := by decide +kernel
theorem dX2_go_14 : decode cX2_go 14 = .ok (.getfield 28, 3) := by decide +kernel
theorem dX2_go_17 : decode cX2_go 17 = .ok (.if_icmp .ge 54, 3) := by decide +kernel
theorem dX2_go_20 : decode cX2_go 20 = .ok (.aload_n 0, 1) := by decide +kernel
theorem dX2_go_21 : decode cX2_go 21 = .ok (.getfield 15, 3) := by decide +kernel
theorem dX2_go_24 : decode cX2_go 24 = .ok (.getfield 34, 3) := by decide +kernel
theorem dX2_go_27 : decode cX2_go 27 = .ok (.iload_n 2, 1) := by decide +kernel
theorem dX2_go_28 : decode cX2_go 28 = .ok (.iaload, 1) := by decide +kernel
theorem dX2_go_29 : decode cX2_go 29 = .ok (.istore_n 3, 1) := by decide +kernel
theorem dX2_go_30 : decode cX2_go 30 = .ok (.aload_n 0, 1) := by decide +kernel
theorem dX2_go_31 : decode cX2_go 31 = .ok (.iload_n 3, 1) := by decide +kernel
theorem dX2_go_32 : decode cX2_go 32 = .ok (.iload_n 1, 1) := by decide +kernel
theorem dX2_go_33 : decode cX2_go 33 = .ok (.invokevirtual 37, 3) := by decide +kernel
theorem dX2_go_36 : decode cX2_go 36 = .ok (.istore 4, 2) := by decide +kernel
theorem dX2_go_38 : decode cX2_go 38 = .ok (.iload 4, 2) := by decide +kernel
theorem dX2_go_40 : decode cX2_go 40 = .ok (.iconst (-1), 1) := by decide +kernel
theorem dX2_go_41 : decode cX2_go 41 = .ok (.if_icmp .ne 5, 3) := by decide +kernel
theorem dX2_go_44 : decode cX2_go 44 = .ok (.iconst 0, 1) := by decide +kernel
theorem dX2_go_45 : decode cX2_go 45 = .ok (.ireturn, 1) := by decide +kernel
theorem dX2_go_46 : decode cX2_go 46 = .ok (.aload_n 0, 1) := by decide +kernel
theorem dX2_go_47 : decode cX2_go 47 = .ok (.getfield 19, 3) := by decide +kernel
theorem dX2_go_50 : decode cX2_go 50 = .ok (.getfield 41, 3) := by decide +kernel
theorem dX2_go_53 : decode cX2_go 53 = .ok (.iload 4, 2) := by decide +kernel
theorem dX2_go_55 : decode cX2_go 55 = .ok (.iload_n 3, 1) := by decide +kernel
theorem dX2_go_56 : decode cX2_go 56 = .ok (.iastore, 1) := by decide +kernel
theorem dX2_go_57 : decode cX2_go 57 = .ok (.aload_n 0, 1) := by decide +kernel
theorem dX2_go_58 : decode cX2_go 58 = .ok (.getfield 9, 3) := by decide +kernel
theorem dX2_go_61 : decode cX2_go 61 = .ok (.iload_n 3, 1) := by decide +kernel
theorem dX2_go_62 : decode cX2_go 62 = .ok (.iload 4, 2) := by decide +kernel
theorem dX2_go_64 : decode cX2_go 64 = .ok (.iastore, 1) := by decide +kernel
theorem dX2_go_65 : decode cX2_go 65 = .ok (.iinc 2 1, 3) := by decide +kernel
theorem dX2_go_68 : decode cX2_go 68 = .ok (.goto (-59), 3) := by decide +kernel
theorem dX2_go_71 : decode cX2_go 71 = .ok (.aload_n 0, 1) := by decide +kernel
theorem dX2_go_72 : decode cX2_go 72 = .ok (.getfield 9, 3) := by decide +kernel
theorem dX2_go_75 : decode cX2_go 75 = .ok (.iconst 0, 1) := by decide +kernel
theorem dX2_go_76 : decode cX2_go 76 = .ok (.aload_n 0, 1) := by decide +kernel
theorem dX2_go_77 : decode cX2_go 77 = .ok (.getfield 15, 3) := by decide +kernel
theorem dX2_go_80 : decode cX2_go 80 = .ok (.getfield 44, 3) := by decide +kernel
theorem dX2_go_83 : decode cX2_go 83 = .ok (.iconst 0, 1) := by decide +kernel
theorem dX2_go_84 : decode cX2_go 84 = .ok (.aload_n 0, 1) := by decide +kernel
theorem dX2_go_85 : decode cX2_go 85 = .ok (.getfield 15, 3) := by decide +kernel
theorem dX2_go_88 : decode cX2_go 88 = .ok (.getfield 28, 3) := by decide +kernel
theorem dX2_go_91 : decode cX2_go 91 = .ok (.invokestatic 47, 3) := by decide +kernel
theorem dX2_go_94 : decode cX2_go 94 = .ok (.iconst 1, 1) := by decide +kernel
theorem dX2_go_95 : decode cX2_go 95 = .ok (.ireturn, 1) := by decide +kernel
set_option maxRecDepth 20000 in
theorem ggX2_cheapest_X3_added : GoodIn wsX2_cheapest wsX3_added := goodIn_r _ [6, 7, 8, 9, 10, 11, 12, 13, 14, 15, 16, 17, 18, 19, 5, 20, 24, 25, 26, 27, 28, 29, 30, 31, 32, 33] (by decide +kernel) (by decide +kernel)
set_option maxRecDepth 20000 in
theorem gX2_cheapest_X3_added : GoodIn wsX2_cheapest (wsV RX2 53 RX3 yX3_added wsX3_added) := goodIn_app (goodIn_of _ (by decide +kernel)) ggX2_cheapest_X3_added
theorem dX2_cheapest_0 : decode cX2_cheapest 0 = .ok (.iconst (-1), 1) := by decide +kernel
theorem dX2_cheapest_1 : decode cX2_cheapest 1 = .ok (.istore_n 3, 1) := by decide +kernel
theorem dX2_cheapest_2 : decode cX2_cheapest 2 = .ok (.iconst (-1), 1) := by decide +kernel
theorem dX2_cheapest_3 : decode cX2_cheapest 3 = .ok (.istore 4, 2) := by decide +kernel
theorem dX2_cheapest_5 : decode cX2_cheapest 5 = .ok (.iconst 0, 1) := by decide +kernel
theorem dX2_cheapest_6 : decode cX2_cheapest 6 = .ok (.istore 5, 2) := by decide +kernel
theorem dX2_cheapest_8 : decode cX2_cheapest 8 = .ok (.iload 5, 2) := by decide +kernel
theorem dX2_cheapest_10 : decode cX2_cheapest 10 = .ok (.iload_n 2, 1) := by decide +kernel
theorem dX2_cheapest_11 : decode cX2_cheapest 11 = .ok (.if_icmp .ge 46, 3) := by decide +kernel
theorem dX2_cheapest_14 : decode cX2_cheapest 14 = .ok (.aload_n 0, 1) := by decide +kernel
theorem dX2_cheapest_15 : decode cX2_cheapest 15 = .ok (.getfield 19, 3) := by decide +kernel
theorem dX2_cheapest_18 : decode cX2_cheapest 18 = .ok (.iload_n 1, 1) := by decide +kernel
theorem dX2_cheapest_19 : decode cX2_cheapest 19 = .ok (.iload 5, 2) := by decide +kernel
theorem dX2_cheapest_21 : decode cX2_cheapest 21 = .ok (.invokevirtual 53, 3) := by decide +kernel
theorem dX2_cheapest_24 : decode cX2_cheapest 24 = .ok (.istore 6, 2) := by decide +kernel
theorem dX2_cheapest_26 : decode cX2_cheapest 26 = .ok (.iload 6, 2) := by decide +kernel
theorem dX2_cheapest_28 : decode cX2_cheapest 28 = .ok (.iconst (-1), 1) := by decide +kernel
theorem dX2_cheapest_29 : decode cX2_cheapest 29 = .ok (.if_icmp .eq 22, 3) := by decide +kernel
theorem dX2_cheapest_32 : decode cX2_cheapest 32 = .ok (.iload_n 3, 1) := by decide +kernel
theorem dX2_cheapest_33 : decode cX2_cheapest 33 = .ok (.iconst (-1), 1) := by decide +kernel
theorem dX2_cheapest_34 : decode cX2_cheapest 34 = .ok (.if_icmp .eq 10, 3) := by decide +kernel
theorem dX2_cheapest_37 : decode cX2_cheapest 37 = .ok (.iload 6, 2) := by decide +kernel
theorem dX2_cheapest_39 : decode cX2_cheapest 39 = .ok (.iload 4, 2) := by decide +kernel
theorem dX2_cheapest_41 : decode cX2_cheapest 41 = .ok (.if_icmp .ge 10, 3) := by decide +kernel
theorem dX2_cheapest_44 : decode cX2_cheapest 44 = .ok (.iload 5, 2) := by decide +kernel
theorem dX2_cheapest_46 : decode cX2_cheapest 46 = .ok (.istore_n 3, 1) := by decide +kernel
theorem dX2_cheapest_47 : decode cX2_cheapest 47 = .ok (.iload 6, 2) := by decide +kernel
theorem dX2_cheapest_49 : decode cX2_cheapest 49 = .ok (.istore 4, 2) := by decide +kernel
theorem dX2_cheapest_51 : decode cX2_cheapest 51 = .ok (.iinc 5 1, 3) := by decide +kernel
theorem dX2_cheapest_54 : decode cX2_cheapest 54 = .ok (.goto (-46), 3) := by decide +kernel
theorem dX2_cheapest_57 : decode cX2_cheapest 57 = .ok (.iload_n 3, 1) := by decide +kernel
theorem dX2_cheapest_58 : decode cX2_cheapest 58 = .ok (.ireturn, 1) := by decide +kernel
theorem dX3_init_0 : decode cX3_init 0 = .ok (.aload_n 0, 1) := by decide +kernel
theorem dX3_init_1 : decode cX3_init 1 = .ok (.invokespecial 3, 3) := by decide +kernel
theorem dX3_init_4 : decode cX3_init 4 = .ok (.aload_n 0, 1) := by decide +kernel
theorem dX3_init_5 : decode cX3_init 5 = .ok (.iconst 4, 1) := by decide +kernel
theorem dX3_init_6 : decode cX3_init 6 = .ok (.newarray .int, 2) := by decide +kernel
theorem dX3_init_8 : decode cX3_init 8 = .ok (.putfield 9, 3) := by decide +kernel
theorem dX3_init_11 : decode cX3_init 11 = .ok (.aload_n 0, 1) := by decide +kernel
theorem dX3_init_12 : decode cX3_init 12 = .ok (.aload_n 1, 1) := by decide +kernel
theorem dX3_init_13 : decode cX3_init 13 = .ok (.putfield 15, 3) := by decide +kernel
theorem dX3_init_16 : decode cX3_init 16 = .ok (.aload_n 0, 1) := by decide +kernel
theorem dX3_init_17 : decode cX3_init 17 = .ok (.aload_n 2, 1) := by decide +kernel
theorem dX3_init_18 : decode cX3_init 18 = .ok (.putfield 19, 3) := by decide +kernel
theorem dX3_init_21 : decode cX3_init 21 = .ok (.return_, 1) := by decide +kernel
set_option maxRecDepth 20000 in
theorem ggX3_empty_J7_fill_53178 : GoodIn wsX3_empty wsJ7_fill_53178 := goodIn_r _ [5] (by decide +kernel) (by decide +kernel)
set_option maxRecDepth 20000 in
theorem gX3_empty_J7_fill_53178 : GoodIn wsX3_empty (va_wsS RX3 22 yJ7_fill_53178 wsJ7_fill_53178) := goodIn_app (goodIn_of _ (by decide +kernel)) ggX3_empty_J7_fill_53178
theorem dX3_empty_0 : decode cX3_empty 0 = .ok (.aload_n 0, 1) := by decide +kernel
theorem dX3_empty_1 : decode cX3_empty 1 = .ok (.getfield 9, 3) := by decide +kernel
theorem dX3_empty_4 : decode cX3_empty 4 = .ok (.iconst (-1), 1) := by decide +kernel
theorem dX3_empty_5 : decode cX3_empty 5 = .ok (.invokestatic 22, 3) := by decide +kernel
theorem dX3_empty_8 : decode cX3_empty 8 = .ok (.return_, 1) := by decide +kernel
set_option maxRecDepth 20000 in
theorem ggX3_added_X3_crossed : GoodIn wsX3_added wsX3_crossed := goodIn_r _ [15, 1, 3, 5, 4, 6, 2, 16, 17, 18, 19, 20, 21, 22, 23, 24, 25] (by decide +kernel) (by decide +kernel)
set_option maxRecDepth 20000 in
theorem gX3_added_X3_crossed : GoodIn wsX3_added (wsV RX3 28 RX3 yX3_crossed wsX3_crossed) := goodIn_app (goodIn_of _ (by decide +kernel)) ggX3_added_X3_crossed
theorem dX3_added_0 : decode cX3_added 0 = .ok (.aload_n 0, 1) := by decide +kernel
theorem dX3_added_1 : decode cX3_added 1 = .ok (.getfield 9, 3) := by decide +kernel
theorem dX3_added_4 : decode cX3_added 4 = .ok (.iload_n 2, 1) := by decide +kernel
theorem dX3_added_5 : decode cX3_added 5 = .ok (.iaload, 1) := by decide +kernel
theorem dX3_added_6 : decode cX3_added 6 = .ok (.istore_n 3, 1) := by decide +kernel
theorem dX3_added_7 : decode cX3_added 7 = .ok (.iload_n 3, 1) := by decide +kernel
theorem dX3_added_8 : decode cX3_added 8 = .ok (.iconst (-1), 1) := by decide +kernel
theorem dX3_added_9 : decode cX3_added 9 = .ok (.if_icmp .ne 17, 3) := by decide +kernel
theorem dX3_added_12 : decode cX3_added 12 = .ok (.aload_n 0, 1) := by decide +kernel
theorem dX3_added_13 : decode cX3_added 13 = .ok (.getfield 19, 3) := by decide +kernel
theorem dX3_added_16 : decode cX3_added 16 = .ok (.iconst 3, 1) := by decide +kernel
theorem dX3_added_17 : decode cX3_added 17 = .ok (.iaload, 1) := by decide +kernel
theorem dX3_added_18 : decode cX3_added 18 = .ok (.aload_n 0, 1) := by decide +kernel
theorem dX3_added_19 : decode cX3_added 19 = .ok (.iload_n 1, 1) := by decide +kernel
theorem dX3_added_20 : decode cX3_added 20 = .ok (.iload_n 2, 1) := by decide +kernel
theorem dX3_added_21 : decode cX3_added 21 = .ok (.invokevirtual 28, 3) := by decide +kernel
theorem dX3_added_24 : decode cX3_added 24 = .ok (.iadd, 1) := by decide +kernel
theorem dX3_added_25 : decode cX3_added 25 = .ok (.ireturn, 1) := by decide +kernel
theorem dX3_added_26 : decode cX3_added 26 = .ok (.aload_n 0, 1) := by decide +kernel
theorem dX3_added_27 : decode cX3_added 27 = .ok (.getfield 15, 3) := by decide +kernel
theorem dX3_added_30 : decode cX3_added 30 = .ok (.getfield 32, 3) := by decide +kernel
theorem dX3_added_33 : decode cX3_added 33 = .ok (.iload_n 1, 1) := by decide +kernel
theorem dX3_added_34 : decode cX3_added 34 = .ok (.iaload, 1) := by decide +kernel
theorem dX3_added_35 : decode cX3_added 35 = .ok (.aload_n 0, 1) := by decide +kernel
theorem dX3_added_36 : decode cX3_added 36 = .ok (.getfield 15, 3) := by decide +kernel
theorem dX3_added_39 : decode cX3_added 39 = .ok (.getfield 37, 3) := by decide +kernel
theorem dX3_added_42 : decode cX3_added 42 = .ok (.iload_n 3, 1) := by decide +kernel
theorem dX3_added_43 : decode cX3_added 43 = .ok (.iaload, 1) := by decide +kernel
theorem dX3_added_44 : decode cX3_added 44 = .ok (.isub, 1) := by decide +kernel
theorem dX3_added_45 : decode cX3_added 45 = .ok (.istore 4, 2) := by decide +kernel
theorem dX3_added_47 : decode cX3_added 47 = .ok (.iload 4, 2) := by decide +kernel
theorem dX3_added_49 : decode cX3_added 49 = .ok (.ifCond .ge 5, 3) := by decide +kernel
theorem dX3_added_52 : decode cX3_added 52 = .ok (.iconst (-1), 1) := by decide +kernel
theorem dX3_added_53 : decode cX3_added 53 = .ok (.ireturn, 1) := by decide +kernel
theorem dX3_added_54 : decode cX3_added 54 = .ok (.aload_n 0, 1) := by decide +kernel
theorem dX3_added_55 : decode cX3_added 55 = .ok (.getfield 15, 3) := by decide +kernel
theorem dX3_added_58 : decode cX3_added 58 = .ok (.getfield 40, 3) := by decide +kernel
theorem dX3_added_61 : decode cX3_added 61 = .ok (.iload_n 1, 1) := by decide +kernel
theorem dX3_added_62 : decode cX3_added 62 = .ok (.iaload, 1) := by decide +kernel
theorem dX3_added_63 : decode cX3_added 63 = .ok (.aload_n 0, 1) := by decide +kernel
theorem dX3_added_64 : decode cX3_added 64 = .ok (.getfield 15, 3) := by decide +kernel
theorem dX3_added_67 : decode cX3_added 67 = .ok (.getfield 40, 3) := by decide +kernel
theorem dX3_added_70 : decode cX3_added 70 = .ok (.iload_n 3, 1) := by decide +kernel
theorem dX3_added_71 : decode cX3_added 71 = .ok (.iaload, 1) := by decide +kernel
theorem dX3_added_72 : decode cX3_added 72 = .ok (.isub, 1) := by decide +kernel
theorem dX3_added_73 : decode cX3_added 73 = .ok (.invokestatic 43, 3) := by decide +kernel
theorem dX3_added_76 : decode cX3_added 76 = .ok (.istore 5, 2) := by decide +kernel
theorem dX3_added_78 : decode cX3_added 78 = .ok (.iload 5, 2) := by decide +kernel
theorem dX3_added_80 : decode cX3_added 80 = .ok (.aload_n 0, 1) := by decide +kernel
theorem dX3_added_81 : decode cX3_added 81 = .ok (.getfield 19, 3) := by decide +kernel
theorem dX3_added_84 : decode cX3_added 84 = .ok (.iconst 0, 1) := by decide +kernel
theorem dX3_added_85 : decode cX3_added 85 = .ok (.iaload, 1) := by decide +kernel
theorem dX3_added_86 : decode cX3_added 86 = .ok (.imul, 1) := by decide +kernel
theorem dX3_added_87 : decode cX3_added 87 = .ok (.iload 4, 2) := by decide +kernel
theorem dX3_added_89 : decode cX3_added 89 = .ok (.aload_n 0, 1) := by decide +kernel
theorem dX3_added_90 : decode cX3_added 90 = .ok (.getfield 19, 3) := by decide +kernel
theorem dX3_added_93 : decode cX3_added 93 = .ok (.iconst 1, 1) := by decide +kernel
theorem dX3_added_94 : decode cX3_added 94 = .ok (.iaload, 1) := by decide +kernel
theorem dX3_added_95 : decode cX3_added 95 = .ok (.imul, 1) := by decide +kernel
theorem dX3_added_96 : decode cX3_added 96 = .ok (.iadd, 1) := by decide +kernel
theorem dX3_added_97 : decode cX3_added 97 = .ok (.aload_n 0, 1) := by decide +kernel
theorem dX3_added_98 : decode cX3_added 98 = .ok (.iload_n 1, 1) := by decide +kernel
theorem dX3_added_99 : decode cX3_added 99 = .ok (.iload_n 2, 1) := by decide +kernel
theorem dX3_added_100 : decode cX3_added 100 = .ok (.invokevirtual 28, 3) := by decide +kernel
theorem dX3_added_103 : decode cX3_added 103 = .ok (.iadd, 1) := by decide +kernel
theorem dX3_added_104 : decode cX3_added 104 = .ok (.ireturn, 1) := by decide +kernel
theorem dX3_crossed_0 : decode cX3_crossed 0 = .ok (.iconst 0, 1) := by decide +kernel
theorem dX3_crossed_1 : decode cX3_crossed 1 = .ok (.istore_n 3, 1) := by decide +kernel
theorem dX3_crossed_2 : decode cX3_crossed 2 = .ok (.iconst 0, 1) := by decide +kernel
theorem dX3_crossed_3 : decode cX3_crossed 3 = .ok (.istore 4, 2) := by decide +kernel
theorem dX3_crossed_5 : decode cX3_crossed 5 = .ok (.iload 4, 2) := by decide +kernel
theorem dX3_crossed_7 : decode cX3_crossed 7 = .ok (.iconst 4, 1) := by decide +kernel
theorem dX3_crossed_8 : decode cX3_crossed 8 = .ok (.if_icmp .ge 99, 3) := by decide +kernel
theorem dX3_crossed_11 : decode cX3_crossed 11 = .ok (.aload_n 0, 1) := by decide +kernel
theorem dX3_crossed_12 : decode cX3_crossed 12 = .ok (.getfield 9, 3) := by decide +kernel
theorem dX3_crossed_15 : decode cX3_crossed 15 = .ok (.iload 4, 2) := by decide +kernel
theorem dX3_crossed_17 : decode cX3_crossed 17 = .ok (.iaload, 1) := by decide +kernel
theorem dX3_crossed_18 : decode cX3_crossed 18 = .ok (.istore 5, 2) := by decide +kernel
theorem dX3_crossed_20 : decode cX3_crossed 20 = .ok (.iload 5, 2) := by decide +kernel
theorem dX3_crossed_22 : decode cX3_crossed 22 = .ok (.iconst (-1), 1) := by decide +kernel
theorem dX3_crossed_23 : decode cX3_crossed 23 = .ok (.if_icmp .eq 78, 3) := by decide +kernel
theorem dX3_crossed_26 : decode cX3_crossed 26 = .ok (.aload_n 0, 1) := by decide +kernel
theorem dX3_crossed_27 : decode cX3_crossed 27 = .ok (.getfield 15, 3) := by decide +kernel
theorem dX3_crossed_30 : decode cX3_crossed 30 = .ok (.getfield 37, 3) := by decide +kernel
theorem dX3_crossed_33 : decode cX3_crossed 33 = .ok (.iload 5, 2) := by decide +kernel
theorem dX3_crossed_35 : decode cX3_crossed 35 = .ok (.iaload, 1) := by decide +kernel
theorem dX3_crossed_36 : decode cX3_crossed 36 = .ok (.aload_n 0, 1) := by decide +kernel
theorem dX3_crossed_37 : decode cX3_crossed 37 = .ok (.getfield 15, 3) := by decide +kernel
theorem dX3_crossed_40 : decode cX3_crossed 40 = .ok (.getfield 32, 3) := by decide +kernel
theorem dX3_crossed_43 : decode cX3_crossed 43 = .ok (.iload_n 1, 1) := by decide +kernel
theorem dX3_crossed_44 : decode cX3_crossed 44 = .ok (.iaload, 1) := by decide +kernel
theorem dX3_crossed_45 : decode cX3_crossed 45 = .ok (.if_icmp .le 56, 3) := by decide +kernel
theorem dX3_crossed_48 : decode cX3_crossed 48 = .ok (.aload_n 0, 1) := by decide +kernel
theorem dX3_crossed_49 : decode cX3_crossed 49 = .ok (.getfield 15, 3) := by decide +kernel
theorem dX3_crossed_52 : decode cX3_crossed 52 = .ok (.getfield 40, 3) := by decide +kernel
theorem dX3_crossed_55 : decode cX3_crossed 55 = .ok (.iload_n 1, 1) := by decide +kernel
theorem dX3_crossed_56 : decode cX3_crossed 56 = .ok (.iaload, 1) := by decide +kernel
theorem dX3_crossed_57 : decode cX3_crossed 57 = .ok (.aload_n 0, 1) := by decide +kernel
theorem dX3_crossed_58 : decode cX3_crossed 58 = .ok (.getfield 15, 3) := by decide +kernel
theorem dX3_crossed_61 : decode cX3_crossed 61 = .ok (.getfield 40, 3) := by decide +kernel
theorem dX3_crossed_64 : decode cX3_crossed 64 = .ok (.iload 5, 2) := by decide +kernel
theorem dX3_crossed_66 : decode cX3_crossed 66 = .ok (.iaload, 1) := by decide +kernel
theorem dX3_crossed_67 : decode cX3_crossed 67 = .ok (.isub, 1) := by decide +kernel
theorem dX3_crossed_68 : decode cX3_crossed 68 = .ok (.istore 6, 2) := by decide +kernel
theorem dX3_crossed_70 : decode cX3_crossed 70 = .ok (.iload 4, 2) := by decide +kernel
theorem dX3_crossed_72 : decode cX3_crossed 72 = .ok (.iload_n 2, 1) := by decide +kernel
theorem dX3_crossed_73 : decode cX3_crossed 73 = .ok (.if_icmp .ge 8, 3) := by decide +kernel
theorem dX3_crossed_76 : decode cX3_crossed 76 = .ok (.iload 6, 2) := by decide +kernel
theorem dX3_crossed_78 : decode cX3_crossed 78 = .ok (.ifCond .gt 14, 3) := by decide +kernel
theorem dX3_crossed_81 : decode cX3_crossed 81 = .ok (.iload 4, 2) := by decide +kernel
theorem dX3_crossed_83 : decode cX3_crossed 83 = .ok (.iload_n 2, 1) := by decide +kernel
theorem dX3_crossed_84 : decode cX3_crossed 84 = .ok (.if_icmp .le 17, 3) := by decide +kernel
theorem dX3_crossed_87 : decode cX3_crossed 87 = .ok (.iload 6, 2) := by decide +kernel
theorem dX3_crossed_89 : decode cX3_crossed 89 = .ok (.ifCond .ge 12, 3) := by decide +kernel
theorem dX3_crossed_92 : decode cX3_crossed 92 = .ok (.iload_n 3, 1) := by decide +kernel
theorem dX3_crossed_93 : decode cX3_crossed 93 = .ok (.aload_n 0, 1) := by decide +kernel
theorem dX3_crossed_94 : decode cX3_crossed 94 = .ok (.getfield 19, 3) := by decide +kernel
theorem dX3_crossed_97 : decode cX3_crossed 97 = .ok (.iconst 2, 1) := by decide +kernel
theorem dX3_crossed_98 : decode cX3_crossed 98 = .ok (.iaload, 1) := by decide +kernel
theorem dX3_crossed_99 : decode cX3_crossed 99 = .ok (.iadd, 1) := by decide +kernel
theorem dX3_crossed_100 : decode cX3_crossed 100 = .ok (.istore_n 3, 1) := by decide +kernel
theorem dX3_crossed_101 : decode cX3_crossed 101 = .ok (.iinc 4 1, 3) := by decide +kernel
theorem dX3_crossed_104 : decode cX3_crossed 104 = .ok (.goto (-99), 3) := by decide +kernel
theorem dX3_crossed_107 : decode cX3_crossed 107 = .ok (.iload_n 3, 1) := by decide +kernel
theorem dX3_crossed_108 : decode cX3_crossed 108 = .ok (.ireturn, 1) := by decide +kernel
theorem dX4_init_0 : decode cX4_init 0 = .ok (.aload_n 0, 1) := by decide +kernel
theorem dX4_init_1 : decode cX4_init 1 = .ok (.invokespecial 3, 3) := by decide +kernel
theorem dX4_init_4 : decode cX4_init 4 = .ok (.aload_n 0, 1) := by decide +kernel
theorem dX4_init_5 : decode cX4_init 5 = .ok (.aload_n 1, 1) := by decide +kernel
theorem dX4_init_6 : decode cX4_init 6 = .ok (.putfield 9, 3) := by decide +kernel
theorem dX4_init_9 : decode cX4_init 9 = .ok (.return_, 1) := by decide +kernel
set_option maxRecDepth 20000 in
theorem ggX4_scan_X4_isPair : GoodIn wsX4_scan wsX4_isPair := goodIn_r _ [10, 1, 11, 12, 13, 14, 15, 16, 17, 18, 19, 20, 21, 9, 22, 23, 24, 25, 26, 27, 28, 29, 30, 31, 32, 33, 34, 35, 36, 37, 38, 39, 40, 41, 42, 43] (by decide +kernel) (by decide +kernel)
set_option maxRecDepth 20000 in
theorem gX4_scan_X4_isPair : GoodIn wsX4_scan (wsV RX4 25 RX4 yX4_isPair wsX4_isPair) := goodIn_app (goodIn_of _ (by decide +kernel)) ggX4_scan_X4_isPair
theorem dX4_scan_0 : decode cX4_scan 0 = .ok (.iconst 0, 1) := by decide +kernel
theorem dX4_scan_1 : decode cX4_scan 1 = .ok (.istore_n 3, 1) := by decide +kernel
theorem dX4_scan_2 : decode cX4_scan 2 = .ok (.iconst 0, 1) := by decide +kernel
theorem dX4_scan_3 : decode cX4_scan 3 = .ok (.istore 4, 2) := by decide +kernel
theorem dX4_scan_5 : decode cX4_scan 5 = .ok (.iload 4, 2) := by decide +kernel
theorem dX4_scan_7 : decode cX4_scan 7 = .ok (.aload_n 0, 1) := by decide +kernel
theorem dX4_scan_8 : decode cX4_scan 8 = .ok (.getfield 9, 3) := by decide +kernel
theorem dX4_scan_11 : decode cX4_scan 11 = .ok (.getfield 15, 3) := by decide +kernel
theorem dX4_scan_14 : decode cX4_scan 14 = .ok (.if_icmp .ge 97, 3) := by decide +kernel
theorem dX4_scan_17 : decode cX4_scan 17 = .ok (.iload 4, 2) := by decide +kernel
theorem dX4_scan_19 : decode cX4_scan 19 = .ok (.iconst 1, 1) := by decide +kernel
theorem dX4_scan_20 : decode cX4_scan 20 = .ok (.iadd, 1) := by decide +kernel
theorem dX4_scan_21 : decode cX4_scan 21 = .ok (.istore 5, 2) := by decide +kernel
theorem dX4_scan_23 : decode cX4_scan 23 = .ok (.iload 5, 2) := by decide +kernel
theorem dX4_scan_25 : decode cX4_scan 25 = .ok (.aload_n 0, 1) := by decide +kernel
theorem dX4_scan_26 : decode cX4_scan 26 = .ok (.getfield 9, 3) := by decide +kernel
theorem dX4_scan_29 : decode cX4_scan 29 = .ok (.getfield 15, 3) := by decide +kernel
theorem dX4_scan_32 : decode cX4_scan 32 = .ok (.if_icmp .ge 73, 3) := by decide +kernel
theorem dX4_scan_35 : decode cX4_scan 35 = .ok (.aload_n 0, 1) := by decide +kernel
theorem dX4_scan_36 : decode cX4_scan 36 = .ok (.iload_n 1, 1) := by decide +kernel
theorem dX4_scan_37 : decode cX4_scan 37 = .ok (.aload_n 0, 1) := by decide +kernel
theorem dX4_scan_38 : decode cX4_scan 38 = .ok (.getfield 9, 3) := by decide +kernel
theorem dX4_scan_41 : decode cX4_scan 41 = .ok (.getfield 21, 3) := by decide +kernel
theorem dX4_scan_44 : decode cX4_scan 44 = .ok (.iload 4, 2) := by decide +kernel
theorem dX4_scan_46 : decode cX4_scan 46 = .ok (.iaload, 1) := by decide +kernel
theorem dX4_scan_47 : decode cX4_scan 47 = .ok (.aload_n 0, 1) := by decide +kernel
theorem dX4_scan_48 : decode cX4_scan 48 = .ok (.getfield 9, 3) := by decide +kernel
theorem dX4_scan_51 : decode cX4_scan 51 = .ok (.getfield 21, 3) := by decide +kernel
theorem dX4_scan_54 : decode cX4_scan 54 = .ok (.iload 5, 2) := by decide +kernel
theorem dX4_scan_56 : decode cX4_scan 56 = .ok (.iaload, 1) := by decide +kernel
theorem dX4_scan_57 : decode cX4_scan 57 = .ok (.invokevirtual 25, 3) := by decide +kernel
theorem dX4_scan_60 : decode cX4_scan 60 = .ok (.ifCond .eq 39, 3) := by decide +kernel
theorem dX4_scan_63 : decode cX4_scan 63 = .ok (.iload_n 3, 1) := by decide +kernel
theorem dX4_scan_64 : decode cX4_scan 64 = .ok (.iload_n 2, 1) := by decide +kernel
theorem dX4_scan_65 : decode cX4_scan 65 = .ok (.if_icmp .ne 31, 3) := by decide +kernel
theorem dX4_scan_68 : decode cX4_scan 68 = .ok (.aload_n 0, 1) := by decide +kernel
theorem dX4_scan_69 : decode cX4_scan 69 = .ok (.aload_n 0, 1) := by decide +kernel
theorem dX4_scan_70 : decode cX4_scan 70 = .ok (.getfield 9, 3) := by decide +kernel
theorem dX4_scan_73 : decode cX4_scan 73 = .ok (.getfield 21, 3) := by decide +kernel
theorem dX4_scan_76 : decode cX4_scan 76 = .ok (.iload 4, 2) := by decide +kernel
theorem dX4_scan_78 : decode cX4_scan 78 = .ok (.iaload, 1) := by decide +kernel
theorem dX4_scan_79 : decode cX4_scan 79 = .ok (.putfield 29, 3) := by decide +kernel
theorem dX4_scan_82 : decode cX4_scan 82 = .ok (.aload_n 0, 1) := by decide +kernel
theorem dX4_scan_83 : decode cX4_scan 83 = .ok (.aload_n 0, 1) := by decide +kernel
theorem dX4_scan_84 : decode cX4_scan 84 = .ok (.getfield 9, 3) := by decide +kernel
theorem dX4_scan_87 : decode cX4_scan 87 = .ok (.getfield 21, 3) := by decide +kernel
theorem dX4_scan_90 : decode cX4_scan 90 = .ok (.iload 5, 2) := by decide +kernel
theorem dX4_scan_92 : decode cX4_scan 92 = .ok (.iaload, 1) := by decide +kernel
theorem dX4_scan_93 : decode cX4_scan 93 = .ok (.putfield 32, 3) := by decide +kernel
theorem dX4_scan_96 : decode cX4_scan 96 = .ok (.iinc 3 1, 3) := by decide +kernel
theorem dX4_scan_99 : decode cX4_scan 99 = .ok (.iinc 5 1, 3) := by decide +kernel
theorem dX4_scan_102 : decode cX4_scan 102 = .ok (.goto (-79), 3) := by decide +kernel
theorem dX4_scan_105 : decode cX4_scan 105 = .ok (.iinc 4 1, 3) := by decide +kernel
theorem dX4_scan_108 : decode cX4_scan 108 = .ok (.goto (-103), 3) := by decide +kernel
theorem dX4_scan_111 : decode cX4_scan 111 = .ok (.iload_n 3, 1) := by decide +kernel
theorem dX4_scan_112 : decode cX4_scan 112 = .ok (.ireturn, 1) := by decide +kernel
set_option maxRecDepth 20000 in
theorem ggX4_isPair_X6_together : GoodIn wsX4_isPair wsX6_together := goodIn_r _ [7, 8, 9, 29, 30, 31, 32, 33, 34, 35] (by decide +kernel) (by decide +kernel)
set_option maxRecDepth 20000 in
theorem gX4_isPair_X6_together : GoodIn wsX4_isPair (wsV RX4 38 RX6 yX6_together wsX6_together) := goodIn_app (goodIn_of _ (by decide +kernel)) ggX4_isPair_X6_together
set_option maxRecDepth 20000 in
theorem ggX4_isPair_X4_isUnder : GoodIn wsX4_isPair wsX4_isUnder := goodIn_r _ [14, 1, 2, 15, 26, 27, 28, 29, 30, 31, 32, 33, 34, 35] (by decide +kernel) (by decide +kernel)
set_option maxRecDepth 20000 in
theorem gX4_isPair_X4_isUnder : GoodIn wsX4_isPair (wsV RX4 42 RX4 yX4_isUnder wsX4_isUnder) := goodIn_app (goodIn_of _ (by decide +kernel)) ggX4_isPair_X4_isUnder
set_option maxRecDepth 20000 in
theorem ggX4_isPair_X4_doMeet : GoodIn wsX4_isPair wsX4_doMeet := goodIn_r _ [19, 1, 2, 15, 26, 27, 28, 29, 30, 31, 32, 33, 34, 35] (by decide +kernel) (by decide +kernel)
set_option maxRecDepth 20000 in
theorem gX4_isPair_X4_doMeet : GoodIn wsX4_isPair (wsV RX4 45 RX4 yX4_doMeet wsX4_doMeet) := goodIn_app (goodIn_of _ (by decide +kernel)) ggX4_isPair_X4_doMeet
set_option maxRecDepth 20000 in
theorem ggX4_isPair_X4_sameSpan : GoodIn wsX4_isPair wsX4_sameSpan := goodIn_r _ [23, 1, 24, 25, 26, 27, 28, 29, 30, 31, 32, 33, 34, 35] (by decide +kernel) (by decide +kernel)
set_option maxRecDepth 20000 in
theorem gX4_isPair_X4_sameSpan : GoodIn wsX4_isPair (wsV RX4 48 RX4 yX4_sameSpan wsX4_sameSpan) := goodIn_app (goodIn_of _ (by decide +kernel)) ggX4_isPair_X4_sameSpan
theorem dX4_isPair_0 : decode cX4_isPair 0 = .ok (.aload_n 0, 1) := by decide +kernel
theorem dX4_isPair_1 : decode cX4_isPair 1 = .ok (.getfield 9, 3) := by decide +kernel
theorem dX4_isPair_4 : decode cX4_isPair 4 = .ok (.getfield 35, 3) := by decide +kernel
theorem dX4_isPair_7 : decode cX4_isPair 7 = .ok (.iload_n 2, 1) := by decide +kernel
theorem dX4_isPair_8 : decode cX4_isPair 8 = .ok (.iaload, 1) := by decide +kernel
theorem dX4_isPair_9 : decode cX4_isPair 9 = .ok (.iconst (-1), 1) := by decide +kernel
theorem dX4_isPair_10 : decode cX4_isPair 10 = .ok (.if_icmp .eq 28, 3) := by decide +kernel
theorem dX4_isPair_13 : decode cX4_isPair 13 = .ok (.aload_n 0, 1) := by decide +kernel
theorem dX4_isPair_14 : decode cX4_isPair 14 = .ok (.getfield 9, 3) := by decide +kernel
theorem dX4_isPair_17 : decode cX4_isPair 17 = .ok (.getfield 35, 3) := by decide +kernel
theorem dX4_isPair_20 : decode cX4_isPair 20 = .ok (.iload_n 3, 1) := by decide +kernel
theorem dX4_isPair_21 : decode cX4_isPair 21 = .ok (.iaload, 1) := by decide +kernel
theorem dX4_isPair_22 : decode cX4_isPair 22 = .ok (.iconst (-1), 1) := by decide +kernel
theorem dX4_isPair_23 : decode cX4_isPair 23 = .ok (.if_icmp .eq 15, 3) := by decide +kernel
theorem dX4_isPair_26 : decode cX4_isPair 26 = .ok (.aload_n 0, 1) := by decide +kernel
theorem dX4_isPair_27 : decode cX4_isPair 27 = .ok (.getfield 9, 3) := by decide +kernel
theorem dX4_isPair_30 : decode cX4_isPair 30 = .ok (.iload_n 2, 1) := by decide +kernel
theorem dX4_isPair_31 : decode cX4_isPair 31 = .ok (.iload_n 3, 1) := by decide +kernel
theorem dX4_isPair_32 : decode cX4_isPair 32 = .ok (.invokevirtual 38, 3) := by decide +kernel
theorem dX4_isPair_35 : decode cX4_isPair 35 = .ok (.ifCond .ne 5, 3) := by decide +kernel
theorem dX4_isPair_38 : decode cX4_isPair 38 = .ok (.iconst 0, 1) := by decide +kernel
theorem dX4_isPair_39 : decode cX4_isPair 39 = .ok (.ireturn, 1) := by decide +kernel
theorem dX4_isPair_40 : decode cX4_isPair 40 = .ok (.iload_n 1, 1) := by decide +kernel
theorem dX4_isPair_41 : decode cX4_isPair 41 = .ok (.ifCond .ne 27, 3) := by decide +kernel
theorem dX4_isPair_44 : decode cX4_isPair 44 = .ok (.aload_n 0, 1) := by decide +kernel
theorem dX4_isPair_45 : decode cX4_isPair 45 = .ok (.iload_n 2, 1) := by decide +kernel
theorem dX4_isPair_46 : decode cX4_isPair 46 = .ok (.iload_n 3, 1) := by decide +kernel
theorem dX4_isPair_47 : decode cX4_isPair 47 = .ok (.invokevirtual 42, 3) := by decide +kernel
theorem dX4_isPair_50 : decode cX4_isPair 50 = .ok (.ifCond .ne 12, 3) := by decide +kernel
theorem dX4_isPair_53 : decode cX4_isPair 53 = .ok (.aload_n 0, 1) := by decide +kernel
theorem dX4_isPair_54 : decode cX4_isPair 54 = .ok (.iload_n 3, 1) := by decide +kernel
theorem dX4_isPair_55 : decode cX4_isPair 55 = .ok (.iload_n 2, 1) := by decide +kernel
theorem dX4_isPair_56 : decode cX4_isPair 56 = .ok (.invokevirtual 42, 3) := by decide +kernel
theorem dX4_isPair_59 : decode cX4_isPair 59 = .ok (.ifCond .eq 7, 3) := by decide +kernel
theorem dX4_isPair_62 : decode cX4_isPair 62 = .ok (.iconst 1, 1) := by decide +kernel
end
section
theorem dX4_isPair_63 : decode cX4_isPair 63 = .ok (.goto 4, 3) := by decide +kernel
theorem dX4_isPair_66 : decode cX4_isPair 66 = .ok (.iconst 0, 1) := by decide +kernel
theorem dX4_isPair_67 : decode cX4_isPair 67 = .ok (.ireturn, 1) := by decide +kernel
theorem dX4_isPair_68 : decode cX4_isPair 68 = .ok (.aload_n 0, 1) := by decide +kernel
theorem dX4_isPair_69 : decode cX4_isPair 69 = .ok (.iload_n 2, 1) := by decide +kernel
theorem dX4_isPair_70 : decode cX4_isPair 70 = .ok (.iload_n 3, 1) := by decide +kernel
theorem dX4_isPair_71 : decode cX4_isPair 71 = .ok (.invokevirtual 45, 3) := by decide +kernel
theorem dX4_isPair_74 : decode cX4_isPair 74 = .ok (.ifCond .eq 21, 3) := by decide +kernel
theorem dX4_isPair_77 : decode cX4_isPair 77 = .ok (.iload_n 1, 1) := by decide +kernel
theorem dX4_isPair_78 : decode cX4_isPair 78 = .ok (.iconst 1, 1) := by decide +kernel
theorem dX4_isPair_79 : decode cX4_isPair 79 = .ok (.if_icmp .eq 12, 3) := by decide +kernel
theorem dX4_isPair_82 : decode cX4_isPair 82 = .ok (.aload_n 0, 1) := by decide +kernel
theorem dX4_isPair_83 : decode cX4_isPair 83 = .ok (.iload_n 2, 1) := by decide +kernel
theorem dX4_isPair_84 : decode cX4_isPair 84 = .ok (.iload_n 3, 1) := by decide +kernel
theorem dX4_isPair_85 : decode cX4_isPair 85 = .ok (.invokevirtual 48, 3) := by decide +kernel
theorem dX4_isPair_88 : decode cX4_isPair 88 = .ok (.ifCond .eq 7, 3) := by decide +kernel
theorem dX4_isPair_91 : decode cX4_isPair 91 = .ok (.iconst 1, 1) := by decide +kernel
theorem dX4_isPair_92 : decode cX4_isPair 92 = .ok (.goto 4, 3) := by decide +kernel
theorem dX4_isPair_95 : decode cX4_isPair 95 = .ok (.iconst 0, 1) := by decide +kernel
theorem dX4_isPair_96 : decode cX4_isPair 96 = .ok (.ireturn, 1) := by decide +kernel
theorem dX4_isUnder_0 : decode cX4_isUnder 0 = .ok (.aload_n 0, 1) := by decide +kernel
theorem dX4_isUnder_1 : decode cX4_isUnder 1 = .ok (.getfield 9, 3) := by decide +kernel
theorem dX4_isUnder_4 : decode cX4_isUnder 4 = .ok (.getfield 35, 3) := by decide +kernel
theorem dX4_isUnder_7 : decode cX4_isUnder 7 = .ok (.iload_n 1, 1) := by decide +kernel
theorem dX4_isUnder_8 : decode cX4_isUnder 8 = .ok (.iaload, 1) := by decide +kernel
theorem dX4_isUnder_9 : decode cX4_isUnder 9 = .ok (.aload_n 0, 1) := by decide +kernel
theorem dX4_isUnder_10 : decode cX4_isUnder 10 = .ok (.getfield 9, 3) := by decide +kernel
theorem dX4_isUnder_13 : decode cX4_isUnder 13 = .ok (.getfield 35, 3) := by decide +kernel
theorem dX4_isUnder_16 : decode cX4_isUnder 16 = .ok (.iload_n 2, 1) := by decide +kernel
theorem dX4_isUnder_17 : decode cX4_isUnder 17 = .ok (.iaload, 1) := by decide +kernel
theorem dX4_isUnder_18 : decode cX4_isUnder 18 = .ok (.if_icmp .ge 28, 3) := by decide +kernel
theorem dX4_isUnder_21 : decode cX4_isUnder 21 = .ok (.aload_n 0, 1) := by decide +kernel
theorem dX4_isUnder_22 : decode cX4_isUnder 22 = .ok (.getfield 9, 3) := by decide +kernel
theorem dX4_isUnder_25 : decode cX4_isUnder 25 = .ok (.getfield 51, 3) := by decide +kernel
theorem dX4_isUnder_28 : decode cX4_isUnder 28 = .ok (.iload_n 1, 1) := by decide +kernel
theorem dX4_isUnder_29 : decode cX4_isUnder 29 = .ok (.iaload, 1) := by decide +kernel
theorem dX4_isUnder_30 : decode cX4_isUnder 30 = .ok (.aload_n 0, 1) := by decide +kernel
theorem dX4_isUnder_31 : decode cX4_isUnder 31 = .ok (.getfield 9, 3) := by decide +kernel
theorem dX4_isUnder_34 : decode cX4_isUnder 34 = .ok (.getfield 51, 3) := by decide +kernel
theorem dX4_isUnder_37 : decode cX4_isUnder 37 = .ok (.iload_n 2, 1) := by decide +kernel
theorem dX4_isUnder_38 : decode cX4_isUnder 38 = .ok (.iaload, 1) := by decide +kernel
theorem dX4_isUnder_39 : decode cX4_isUnder 39 = .ok (.if_icmp .ge 7, 3) := by decide +kernel
theorem dX4_isUnder_42 : decode cX4_isUnder 42 = .ok (.iconst 1, 1) := by decide +kernel
theorem dX4_isUnder_43 : decode cX4_isUnder 43 = .ok (.goto 4, 3) := by decide +kernel
theorem dX4_isUnder_46 : decode cX4_isUnder 46 = .ok (.iconst 0, 1) := by decide +kernel
theorem dX4_isUnder_47 : decode cX4_isUnder 47 = .ok (.ireturn, 1) := by decide +kernel
theorem dX4_doMeet_0 : decode cX4_doMeet 0 = .ok (.aload_n 0, 1) := by decide +kernel
theorem dX4_doMeet_1 : decode cX4_doMeet 1 = .ok (.getfield 9, 3) := by decide +kernel
theorem dX4_doMeet_4 : decode cX4_doMeet 4 = .ok (.getfield 35, 3) := by decide +kernel
theorem dX4_doMeet_7 : decode cX4_doMeet 7 = .ok (.iload_n 1, 1) := by decide +kernel
theorem dX4_doMeet_8 : decode cX4_doMeet 8 = .ok (.iaload, 1) := by decide +kernel
theorem dX4_doMeet_9 : decode cX4_doMeet 9 = .ok (.aload_n 0, 1) := by decide +kernel
theorem dX4_doMeet_10 : decode cX4_doMeet 10 = .ok (.getfield 9, 3) := by decide +kernel
theorem dX4_doMeet_13 : decode cX4_doMeet 13 = .ok (.getfield 35, 3) := by decide +kernel
theorem dX4_doMeet_16 : decode cX4_doMeet 16 = .ok (.iload_n 2, 1) := by decide +kernel
theorem dX4_doMeet_17 : decode cX4_doMeet 17 = .ok (.iaload, 1) := by decide +kernel
theorem dX4_doMeet_18 : decode cX4_doMeet 18 = .ok (.if_icmp .eq 28, 3) := by decide +kernel
theorem dX4_doMeet_21 : decode cX4_doMeet 21 = .ok (.aload_n 0, 1) := by decide +kernel
theorem dX4_doMeet_22 : decode cX4_doMeet 22 = .ok (.getfield 9, 3) := by decide +kernel
theorem dX4_doMeet_25 : decode cX4_doMeet 25 = .ok (.getfield 51, 3) := by decide +kernel
theorem dX4_doMeet_28 : decode cX4_doMeet 28 = .ok (.iload_n 1, 1) := by decide +kernel
theorem dX4_doMeet_29 : decode cX4_doMeet 29 = .ok (.iaload, 1) := by decide +kernel
theorem dX4_doMeet_30 : decode cX4_doMeet 30 = .ok (.aload_n 0, 1) := by decide +kernel
theorem dX4_doMeet_31 : decode cX4_doMeet 31 = .ok (.getfield 9, 3) := by decide +kernel
theorem dX4_doMeet_34 : decode cX4_doMeet 34 = .ok (.getfield 51, 3) := by decide +kernel
theorem dX4_doMeet_37 : decode cX4_doMeet 37 = .ok (.iload_n 2, 1) := by decide +kernel
theorem dX4_doMeet_38 : decode cX4_doMeet 38 = .ok (.iaload, 1) := by decide +kernel
theorem dX4_doMeet_39 : decode cX4_doMeet 39 = .ok (.if_icmp .ne 7, 3) := by decide +kernel
theorem dX4_doMeet_42 : decode cX4_doMeet 42 = .ok (.iconst 1, 1) := by decide +kernel
theorem dX4_doMeet_43 : decode cX4_doMeet 43 = .ok (.goto 4, 3) := by decide +kernel
theorem dX4_doMeet_46 : decode cX4_doMeet 46 = .ok (.iconst 0, 1) := by decide +kernel
theorem dX4_doMeet_47 : decode cX4_doMeet 47 = .ok (.ireturn, 1) := by decide +kernel
theorem dX4_sameSpan_0 : decode cX4_sameSpan 0 = .ok (.aload_n 0, 1) := by decide +kernel
theorem dX4_sameSpan_1 : decode cX4_sameSpan 1 = .ok (.getfield 9, 3) := by decide +kernel
theorem dX4_sameSpan_4 : decode cX4_sameSpan 4 = .ok (.getfield 54, 3) := by decide +kernel
theorem dX4_sameSpan_7 : decode cX4_sameSpan 7 = .ok (.iload_n 1, 1) := by decide +kernel
theorem dX4_sameSpan_8 : decode cX4_sameSpan 8 = .ok (.iaload, 1) := by decide +kernel
theorem dX4_sameSpan_9 : decode cX4_sameSpan 9 = .ok (.aload_n 0, 1) := by decide +kernel
theorem dX4_sameSpan_10 : decode cX4_sameSpan 10 = .ok (.getfield 9, 3) := by decide +kernel
theorem dX4_sameSpan_13 : decode cX4_sameSpan 13 = .ok (.getfield 54, 3) := by decide +kernel
theorem dX4_sameSpan_16 : decode cX4_sameSpan 16 = .ok (.iload_n 2, 1) := by decide +kernel
theorem dX4_sameSpan_17 : decode cX4_sameSpan 17 = .ok (.iaload, 1) := by decide +kernel
theorem dX4_sameSpan_18 : decode cX4_sameSpan 18 = .ok (.if_icmp .ne 28, 3) := by decide +kernel
theorem dX4_sameSpan_21 : decode cX4_sameSpan 21 = .ok (.aload_n 0, 1) := by decide +kernel
theorem dX4_sameSpan_22 : decode cX4_sameSpan 22 = .ok (.getfield 9, 3) := by decide +kernel
theorem dX4_sameSpan_25 : decode cX4_sameSpan 25 = .ok (.getfield 57, 3) := by decide +kernel
theorem dX4_sameSpan_28 : decode cX4_sameSpan 28 = .ok (.iload_n 1, 1) := by decide +kernel
theorem dX4_sameSpan_29 : decode cX4_sameSpan 29 = .ok (.iaload, 1) := by decide +kernel
theorem dX4_sameSpan_30 : decode cX4_sameSpan 30 = .ok (.aload_n 0, 1) := by decide +kernel
theorem dX4_sameSpan_31 : decode cX4_sameSpan 31 = .ok (.getfield 9, 3) := by decide +kernel
theorem dX4_sameSpan_34 : decode cX4_sameSpan 34 = .ok (.getfield 57, 3) := by decide +kernel
theorem dX4_sameSpan_37 : decode cX4_sameSpan 37 = .ok (.iload_n 2, 1) := by decide +kernel
theorem dX4_sameSpan_38 : decode cX4_sameSpan 38 = .ok (.iaload, 1) := by decide +kernel
theorem dX4_sameSpan_39 : decode cX4_sameSpan 39 = .ok (.if_icmp .ne 7, 3) := by decide +kernel
theorem dX4_sameSpan_42 : decode cX4_sameSpan 42 = .ok (.iconst 1, 1) := by decide +kernel
theorem dX4_sameSpan_43 : decode cX4_sameSpan 43 = .ok (.goto 4, 3) := by decide +kernel
theorem dX4_sameSpan_46 : decode cX4_sameSpan 46 = .ok (.iconst 0, 1) := by decide +kernel
theorem dX4_sameSpan_47 : decode cX4_sameSpan 47 = .ok (.ireturn, 1) := by decide +kernel
theorem dX5_init_0 : decode cX5_init 0 = .ok (.aload_n 0, 1) := by decide +kernel
theorem dX5_init_1 : decode cX5_init 1 = .ok (.invokespecial 3, 3) := by decide +kernel
theorem dX5_init_4 : decode cX5_init 4 = .ok (.aload_n 0, 1) := by decide +kernel
theorem dX5_init_5 : decode cX5_init 5 = .ok (.bipush 61, 2) := by decide +kernel
theorem dX5_init_7 : decode cX5_init 7 = .ok (.newarray .int, 2) := by decide +kernel
theorem dX5_init_9 : decode cX5_init 9 = .ok (.putfield 9, 3) := by decide +kernel
theorem dX5_init_12 : decode cX5_init 12 = .ok (.aload_n 0, 1) := by decide +kernel
theorem dX5_init_13 : decode cX5_init 13 = .ok (.bipush 61, 2) := by decide +kernel
theorem dX5_init_15 : decode cX5_init 15 = .ok (.newarray .int, 2) := by decide +kernel
theorem dX5_init_17 : decode cX5_init 17 = .ok (.putfield 15, 3) := by decide +kernel
theorem dX5_init_20 : decode cX5_init 20 = .ok (.aload_n 0, 1) := by decide +kernel
theorem dX5_init_21 : decode cX5_init 21 = .ok (.aload_n 1, 1) := by decide +kernel
theorem dX5_init_22 : decode cX5_init 22 = .ok (.putfield 18, 3) := by decide +kernel
theorem dX5_init_25 : decode cX5_init 25 = .ok (.return_, 1) := by decide +kernel
set_option maxRecDepth 20000 in
theorem ggX5_collect_X5_breaksRest : GoodIn wsX5_collect wsX5_breaksRest := goodIn_r _ [15, 2, 16, 31, 32, 33, 34, 35, 36, 37, 38, 39, 40, 41] (by decide +kernel) (by decide +kernel)
set_option maxRecDepth 20000 in
theorem gX5_collect_X5_breaksRest : GoodIn wsX5_collect (wsV RX5 32 RX5 yX5_breaksRest wsX5_breaksRest) := goodIn_app (goodIn_of _ (by decide +kernel)) ggX5_collect_X5_breaksRest
set_option maxRecDepth 20000 in
theorem ggX5_collect_X5_keep : GoodIn wsX5_collect wsX5_keep := goodIn_r _ [20, 1, 21, 22, 31, 32, 33, 34] (by decide +kernel) (by decide +kernel)
set_option maxRecDepth 20000 in
theorem gX5_collect_X5_keep : GoodIn wsX5_collect (wsV RX5 39 RX5 yX5_keep wsX5_keep) := goodIn_app (goodIn_of _ (by decide +kernel)) ggX5_collect_X5_keep
set_option maxRecDepth 20000 in
theorem ggX5_collect_X6_theEnd : GoodIn wsX5_collect wsX6_theEnd := goodIn_r _ [27, 28, 29, 30, 8, 9, 10, 35, 36, 37, 38, 39, 40, 41] (by decide +kernel) (by decide +kernel)
set_option maxRecDepth 20000 in
theorem gX5_collect_X6_theEnd : GoodIn wsX5_collect (wsV RX5 52 RX6 yX6_theEnd wsX6_theEnd) := goodIn_app (goodIn_of _ (by decide +kernel)) ggX5_collect_X6_theEnd
theorem dX5_collect_0 : decode cX5_collect 0 = .ok (.aload_n 0, 1) := by decide +kernel
theorem dX5_collect_1 : decode cX5_collect 1 = .ok (.iconst 0, 1) := by decide +kernel
theorem dX5_collect_2 : decode cX5_collect 2 = .ok (.putfield 22, 3) := by decide +kernel
theorem dX5_collect_5 : decode cX5_collect 5 = .ok (.iconst 0, 1) := by decide +kernel
theorem dX5_collect_6 : decode cX5_collect 6 = .ok (.istore_n 2, 1) := by decide +kernel
theorem dX5_collect_7 : decode cX5_collect 7 = .ok (.iconst 0, 1) := by decide +kernel
theorem dX5_collect_8 : decode cX5_collect 8 = .ok (.istore_n 3, 1) := by decide +kernel
theorem dX5_collect_9 : decode cX5_collect 9 = .ok (.iload_n 3, 1) := by decide +kernel
theorem dX5_collect_10 : decode cX5_collect 10 = .ok (.aload_n 0, 1) := by decide +kernel
theorem dX5_collect_11 : decode cX5_collect 11 = .ok (.getfield 18, 3) := by decide +kernel
theorem dX5_collect_14 : decode cX5_collect 14 = .ok (.getfield 26, 3) := by decide +kernel
theorem dX5_collect_17 : decode cX5_collect 17 = .ok (.if_icmp .ge 60, 3) := by decide +kernel
theorem dX5_collect_20 : decode cX5_collect 20 = .ok (.aload_n 0, 1) := by decide +kernel
theorem dX5_collect_21 : decode cX5_collect 21 = .ok (.getfield 18, 3) := by decide +kernel
theorem dX5_collect_24 : decode cX5_collect 24 = .ok (.getfield 29, 3) := by decide +kernel
theorem dX5_collect_27 : decode cX5_collect 27 = .ok (.iload_n 3, 1) := by decide +kernel
theorem dX5_collect_28 : decode cX5_collect 28 = .ok (.iaload, 1) := by decide +kernel
theorem dX5_collect_29 : decode cX5_collect 29 = .ok (.istore 4, 2) := by decide +kernel
theorem dX5_collect_31 : decode cX5_collect 31 = .ok (.aload_n 0, 1) := by decide +kernel
theorem dX5_collect_32 : decode cX5_collect 32 = .ok (.iload 4, 2) := by decide +kernel
theorem dX5_collect_34 : decode cX5_collect 34 = .ok (.iload_n 1, 1) := by decide +kernel
theorem dX5_collect_35 : decode cX5_collect 35 = .ok (.invokevirtual 32, 3) := by decide +kernel
theorem dX5_collect_38 : decode cX5_collect 38 = .ok (.ifCond .eq 33, 3) := by decide +kernel
theorem dX5_collect_41 : decode cX5_collect 41 = .ok (.aload_n 0, 1) := by decide +kernel
theorem dX5_collect_42 : decode cX5_collect 42 = .ok (.iload_n 2, 1) := by decide +kernel
theorem dX5_collect_43 : decode cX5_collect 43 = .ok (.aload_n 0, 1) := by decide +kernel
theorem dX5_collect_44 : decode cX5_collect 44 = .ok (.getfield 18, 3) := by decide +kernel
theorem dX5_collect_47 : decode cX5_collect 47 = .ok (.getfield 36, 3) := by decide +kernel
theorem dX5_collect_50 : decode cX5_collect 50 = .ok (.iload 4, 2) := by decide +kernel
theorem dX5_collect_52 : decode cX5_collect 52 = .ok (.iaload, 1) := by decide +kernel
theorem dX5_collect_53 : decode cX5_collect 53 = .ok (.invokevirtual 39, 3) := by decide +kernel
theorem dX5_collect_56 : decode cX5_collect 56 = .ok (.iload_n 2, 1) := by decide +kernel
theorem dX5_collect_57 : decode cX5_collect 57 = .ok (.aload_n 0, 1) := by decide +kernel
theorem dX5_collect_58 : decode cX5_collect 58 = .ok (.getfield 18, 3) := by decide +kernel
theorem dX5_collect_61 : decode cX5_collect 61 = .ok (.getfield 43, 3) := by decide +kernel
theorem dX5_collect_64 : decode cX5_collect 64 = .ok (.iload 4, 2) := by decide +kernel
theorem dX5_collect_66 : decode cX5_collect 66 = .ok (.iaload, 1) := by decide +kernel
theorem dX5_collect_67 : decode cX5_collect 67 = .ok (.invokestatic 46, 3) := by decide +kernel
theorem dX5_collect_70 : decode cX5_collect 70 = .ok (.istore_n 2, 1) := by decide +kernel
theorem dX5_collect_71 : decode cX5_collect 71 = .ok (.iinc 3 1, 3) := by decide +kernel
theorem dX5_collect_74 : decode cX5_collect 74 = .ok (.goto (-65), 3) := by decide +kernel
theorem dX5_collect_77 : decode cX5_collect 77 = .ok (.aload_n 0, 1) := by decide +kernel
theorem dX5_collect_78 : decode cX5_collect 78 = .ok (.iload_n 2, 1) := by decide +kernel
theorem dX5_collect_79 : decode cX5_collect 79 = .ok (.aload_n 0, 1) := by decide +kernel
theorem dX5_collect_80 : decode cX5_collect 80 = .ok (.getfield 18, 3) := by decide +kernel
theorem dX5_collect_83 : decode cX5_collect 83 = .ok (.invokevirtual 52, 3) := by decide +kernel
theorem dX5_collect_86 : decode cX5_collect 86 = .ok (.invokevirtual 39, 3) := by decide +kernel
theorem dX5_collect_89 : decode cX5_collect 89 = .ok (.return_, 1) := by decide +kernel
theorem dX5_breaksRest_0 : decode cX5_breaksRest 0 = .ok (.iload_n 2, 1) := by decide +kernel
theorem dX5_breaksRest_1 : decode cX5_breaksRest 1 = .ok (.iconst 4, 1) := by decide +kernel
theorem dX5_breaksRest_2 : decode cX5_breaksRest 2 = .ok (.if_icmp .ne 24, 3) := by decide +kernel
theorem dX5_breaksRest_5 : decode cX5_breaksRest 5 = .ok (.aload_n 0, 1) := by decide +kernel
theorem dX5_breaksRest_6 : decode cX5_breaksRest 6 = .ok (.getfield 18, 3) := by decide +kernel
theorem dX5_breaksRest_9 : decode cX5_breaksRest 9 = .ok (.getfield 56, 3) := by decide +kernel
theorem dX5_breaksRest_12 : decode cX5_breaksRest 12 = .ok (.iload_n 1, 1) := by decide +kernel
theorem dX5_breaksRest_13 : decode cX5_breaksRest 13 = .ok (.iaload, 1) := by decide +kernel
theorem dX5_breaksRest_14 : decode cX5_breaksRest 14 = .ok (.iconst (-1), 1) := by decide +kernel
theorem dX5_breaksRest_15 : decode cX5_breaksRest 15 = .ok (.if_icmp .eq 7, 3) := by decide +kernel
theorem dX5_breaksRest_18 : decode cX5_breaksRest 18 = .ok (.iconst 1, 1) := by decide +kernel
theorem dX5_breaksRest_19 : decode cX5_breaksRest 19 = .ok (.goto 25, 3) := by decide +kernel
theorem dX5_breaksRest_22 : decode cX5_breaksRest 22 = .ok (.iconst 0, 1) := by decide +kernel
theorem dX5_breaksRest_23 : decode cX5_breaksRest 23 = .ok (.goto 21, 3) := by decide +kernel
theorem dX5_breaksRest_26 : decode cX5_breaksRest 26 = .ok (.aload_n 0, 1) := by decide +kernel
theorem dX5_breaksRest_27 : decode cX5_breaksRest 27 = .ok (.getfield 18, 3) := by decide +kernel
theorem dX5_breaksRest_30 : decode cX5_breaksRest 30 = .ok (.getfield 56, 3) := by decide +kernel
theorem dX5_breaksRest_33 : decode cX5_breaksRest 33 = .ok (.iload_n 1, 1) := by decide +kernel
theorem dX5_breaksRest_34 : decode cX5_breaksRest 34 = .ok (.iaload, 1) := by decide +kernel
theorem dX5_breaksRest_35 : decode cX5_breaksRest 35 = .ok (.iload_n 2, 1) := by decide +kernel
theorem dX5_breaksRest_36 : decode cX5_breaksRest 36 = .ok (.if_icmp .ne 7, 3) := by decide +kernel
theorem dX5_breaksRest_39 : decode cX5_breaksRest 39 = .ok (.iconst 1, 1) := by decide +kernel
theorem dX5_breaksRest_40 : decode cX5_breaksRest 40 = .ok (.goto 4, 3) := by decide +kernel
theorem dX5_breaksRest_43 : decode cX5_breaksRest 43 = .ok (.iconst 0, 1) := by decide +kernel
theorem dX5_breaksRest_44 : decode cX5_breaksRest 44 = .ok (.ireturn, 1) := by decide +kernel
theorem dX5_keep_0 : decode cX5_keep 0 = .ok (.iload_n 1, 1) := by decide +kernel
theorem dX5_keep_1 : decode cX5_keep 1 = .ok (.iload_n 2, 1) := by decide +kernel
theorem dX5_keep_2 : decode cX5_keep 2 = .ok (.if_icmp .ge 45, 3) := by decide +kernel
theorem dX5_keep_5 : decode cX5_keep 5 = .ok (.aload_n 0, 1) := by decide +kernel
theorem dX5_keep_6 : decode cX5_keep 6 = .ok (.getfield 22, 3) := by decide +kernel
theorem dX5_keep_9 : decode cX5_keep 9 = .ok (.aload_n 0, 1) := by decide +kernel
theorem dX5_keep_10 : decode cX5_keep 10 = .ok (.getfield 9, 3) := by decide +kernel
theorem dX5_keep_13 : decode cX5_keep 13 = .ok (.arraylength, 1) := by decide +kernel
theorem dX5_keep_14 : decode cX5_keep 14 = .ok (.if_icmp .ge 33, 3) := by decide +kernel
theorem dX5_keep_17 : decode cX5_keep 17 = .ok (.aload_n 0, 1) := by decide +kernel
theorem dX5_keep_18 : decode cX5_keep 18 = .ok (.getfield 9, 3) := by decide +kernel
theorem dX5_keep_21 : decode cX5_keep 21 = .ok (.aload_n 0, 1) := by decide +kernel
theorem dX5_keep_22 : decode cX5_keep 22 = .ok (.getfield 22, 3) := by decide +kernel
theorem dX5_keep_25 : decode cX5_keep 25 = .ok (.iload_n 1, 1) := by decide +kernel
theorem dX5_keep_26 : decode cX5_keep 26 = .ok (.iastore, 1) := by decide +kernel
theorem dX5_keep_27 : decode cX5_keep 27 = .ok (.aload_n 0, 1) := by decide +kernel
theorem dX5_keep_28 : decode cX5_keep 28 = .ok (.getfield 15, 3) := by decide +kernel
theorem dX5_keep_31 : decode cX5_keep 31 = .ok (.aload_n 0, 1) := by decide +kernel
theorem dX5_keep_32 : decode cX5_keep 32 = .ok (.getfield 22, 3) := by decide +kernel
theorem dX5_keep_35 : decode cX5_keep 35 = .ok (.iload_n 2, 1) := by decide +kernel
theorem dX5_keep_36 : decode cX5_keep 36 = .ok (.iastore, 1) := by decide +kernel
theorem dX5_keep_37 : decode cX5_keep 37 = .ok (.aload_n 0, 1) := by decide +kernel
theorem dX5_keep_38 : decode cX5_keep 38 = .ok (.dup, 1) := by decide +kernel
theorem dX5_keep_39 : decode cX5_keep 39 = .ok (.getfield 22, 3) := by decide +kernel
theorem dX5_keep_42 : decode cX5_keep 42 = .ok (.iconst 1, 1) := by decide +kernel
theorem dX5_keep_43 : decode cX5_keep 43 = .ok (.iadd, 1) := by decide +kernel
theorem dX5_keep_44 : decode cX5_keep 44 = .ok (.putfield 22, 3) := by decide +kernel
theorem dX5_keep_47 : decode cX5_keep 47 = .ok (.return_, 1) := by decide +kernel
theorem dX6_init_0 : decode cX6_init 0 = .ok (.aload_n 0, 1) := by decide +kernel
theorem dX6_init_1 : decode cX6_init 1 = .ok (.invokespecial 3, 3) := by decide +kernel
theorem dX6_init_4 : decode cX6_init 4 = .ok (.aload_n 0, 1) := by decide +kernel
theorem dX6_init_5 : decode cX6_init 5 = .ok (.bipush 60, 2) := by decide +kernel
theorem dX6_init_7 : decode cX6_init 7 = .ok (.newarray .int, 2) := by decide +kernel
theorem dX6_init_9 : decode cX6_init 9 = .ok (.putfield 9, 3) := by decide +kernel
theorem dX6_init_12 : decode cX6_init 12 = .ok (.aload_n 0, 1) := by decide +kernel
theorem dX6_init_13 : decode cX6_init 13 = .ok (.bipush 60, 2) := by decide +kernel
theorem dX6_init_15 : decode cX6_init 15 = .ok (.newarray .int, 2) := by decide +kernel
theorem dX6_init_17 : decode cX6_init 17 = .ok (.putfield 15, 3) := by decide +kernel
theorem dX6_init_20 : decode cX6_init 20 = .ok (.aload_n 0, 1) := by decide +kernel
theorem dX6_init_21 : decode cX6_init 21 = .ok (.bipush 60, 2) := by decide +kernel
theorem dX6_init_23 : decode cX6_init 23 = .ok (.newarray .int, 2) := by decide +kernel
theorem dX6_init_25 : decode cX6_init 25 = .ok (.putfield 18, 3) := by decide +kernel
theorem dX6_init_28 : decode cX6_init 28 = .ok (.aload_n 0, 1) := by decide +kernel
theorem dX6_init_29 : decode cX6_init 29 = .ok (.bipush 60, 2) := by decide +kernel
theorem dX6_init_31 : decode cX6_init 31 = .ok (.newarray .int, 2) := by decide +kernel
theorem dX6_init_33 : decode cX6_init 33 = .ok (.putfield 21, 3) := by decide +kernel
theorem dX6_init_36 : decode cX6_init 36 = .ok (.aload_n 0, 1) := by decide +kernel
theorem dX6_init_37 : decode cX6_init 37 = .ok (.bipush 60, 2) := by decide +kernel
theorem dX6_init_39 : decode cX6_init 39 = .ok (.newarray .int, 2) := by decide +kernel
theorem dX6_init_41 : decode cX6_init 41 = .ok (.putfield 24, 3) := by decide +kernel
theorem dX6_init_44 : decode cX6_init 44 = .ok (.aload_n 0, 1) := by decide +kernel
theorem dX6_init_45 : decode cX6_init 45 = .ok (.bipush 60, 2) := by decide +kernel
theorem dX6_init_47 : decode cX6_init 47 = .ok (.newarray .int, 2) := by decide +kernel
theorem dX6_init_49 : decode cX6_init 49 = .ok (.putfield 27, 3) := by decide +kernel
theorem dX6_init_52 : decode cX6_init 52 = .ok (.return_, 1) := by decide +kernel
set_option maxRecDepth 20000 in
theorem ggX6_has_X7_within : GoodIn wsX6_has wsX7_within := goodIn_r _ [4] (by decide +kernel) (by decide +kernel)
set_option maxRecDepth 20000 in
theorem gX6_has_X7_within_n34 : GoodIn wsX6_has (wsX7_within) := ggX6_has_X7_within
theorem dX6_has_0 : decode cX6_has 0 = .ok (.iload_n 1, 1) := by decide +kernel
theorem dX6_has_1 : decode cX6_has 1 = .ok (.iconst 0, 1) := by decide +kernel
theorem dX6_has_2 : decode cX6_has 2 = .ok (.aload_n 0, 1) := by decide +kernel
theorem dX6_has_3 : decode cX6_has 3 = .ok (.getfield 30, 3) := by decide +kernel
theorem dX6_has_6 : decode cX6_has 6 = .ok (.iconst 1, 1) := by decide +kernel
theorem dX6_has_7 : decode cX6_has 7 = .ok (.isub, 1) := by decide +kernel
theorem dX6_has_8 : decode cX6_has 8 = .ok (.invokestatic 34, 3) := by decide +kernel
theorem dX6_has_11 : decode cX6_has 11 = .ok (.ireturn, 1) := by decide +kernel
set_option maxRecDepth 20000 in
theorem ggX6_add_X6_change : GoodIn wsX6_add wsX6_change := goodIn_r _ [8, 9, 10, 11, 12, 13, 14, 7, 15, 1, 3, 16, 17, 18, 19, 20, 21, 22, 23, 24, 25, 26, 27] (by decide +kernel) (by decide +kernel)
set_option maxRecDepth 20000 in
theorem gX6_add_X6_change : GoodIn wsX6_add (wsV RX6 38 RX6 yX6_change wsX6_change) := goodIn_app (goodIn_of _ (by decide +kernel)) ggX6_add_X6_change
theorem dX6_add_0 : decode cX6_add 0 = .ok (.aload_n 0, 1) := by decide +kernel
theorem dX6_add_1 : decode cX6_add 1 = .ok (.getfield 30, 3) := by decide +kernel
theorem dX6_add_4 : decode cX6_add 4 = .ok (.istore 4, 2) := by decide +kernel
theorem dX6_add_6 : decode cX6_add 6 = .ok (.aload_n 0, 1) := by decide +kernel
theorem dX6_add_7 : decode cX6_add 7 = .ok (.dup, 1) := by decide +kernel
theorem dX6_add_8 : decode cX6_add 8 = .ok (.getfield 30, 3) := by decide +kernel
theorem dX6_add_11 : decode cX6_add 11 = .ok (.iconst 1, 1) := by decide +kernel
theorem dX6_add_12 : decode cX6_add 12 = .ok (.iadd, 1) := by decide +kernel
theorem dX6_add_13 : decode cX6_add 13 = .ok (.putfield 30, 3) := by decide +kernel
theorem dX6_add_16 : decode cX6_add 16 = .ok (.aload_n 0, 1) := by decide +kernel
theorem dX6_add_17 : decode cX6_add 17 = .ok (.getfield 21, 3) := by decide +kernel
theorem dX6_add_20 : decode cX6_add 20 = .ok (.iload 4, 2) := by decide +kernel
theorem dX6_add_22 : decode cX6_add 22 = .ok (.iconst (-1), 1) := by decide +kernel
theorem dX6_add_23 : decode cX6_add 23 = .ok (.iastore, 1) := by decide +kernel
theorem dX6_add_24 : decode cX6_add 24 = .ok (.aload_n 0, 1) := by decide +kernel
theorem dX6_add_25 : decode cX6_add 25 = .ok (.getfield 24, 3) := by decide +kernel
theorem dX6_add_28 : decode cX6_add 28 = .ok (.iload 4, 2) := by decide +kernel
theorem dX6_add_30 : decode cX6_add 30 = .ok (.iload 4, 2) := by decide +kernel
theorem dX6_add_32 : decode cX6_add 32 = .ok (.iastore, 1) := by decide +kernel
theorem dX6_add_33 : decode cX6_add 33 = .ok (.aload_n 0, 1) := by decide +kernel
theorem dX6_add_34 : decode cX6_add 34 = .ok (.iload 4, 2) := by decide +kernel
theorem dX6_add_36 : decode cX6_add 36 = .ok (.iload_n 1, 1) := by decide +kernel
theorem dX6_add_37 : decode cX6_add 37 = .ok (.iload_n 2, 1) := by decide +kernel
theorem dX6_add_38 : decode cX6_add 38 = .ok (.iload_n 3, 1) := by decide +kernel
theorem dX6_add_39 : decode cX6_add 39 = .ok (.invokevirtual 38, 3) := by decide +kernel
theorem dX6_add_42 : decode cX6_add 42 = .ok (.iload 4, 2) := by decide +kernel
theorem dX6_add_44 : decode cX6_add 44 = .ok (.ireturn, 1) := by decide +kernel
set_option maxRecDepth 20000 in
theorem ggX6_change_X6_sortOrder : GoodIn wsX6_change wsX6_sortOrder := goodIn_r _ [8, 9, 10, 11, 12, 13, 14, 7, 15, 1, 3, 16, 17, 18, 19, 20, 21, 22] (by decide +kernel) (by decide +kernel)
set_option maxRecDepth 20000 in
theorem gX6_change_X6_sortOrder : GoodIn wsX6_change (wsV RX6 42 RX6 yX6_sortOrder wsX6_sortOrder) := goodIn_app (goodIn_of _ (by decide +kernel)) ggX6_change_X6_sortOrder
theorem dX6_change_0 : decode cX6_change 0 = .ok (.aload_n 0, 1) := by decide +kernel
theorem dX6_change_1 : decode cX6_change 1 = .ok (.getfield 9, 3) := by decide +kernel
theorem dX6_change_4 : decode cX6_change 4 = .ok (.iload_n 1, 1) := by decide +kernel
theorem dX6_change_5 : decode cX6_change 5 = .ok (.iload_n 2, 1) := by decide +kernel
theorem dX6_change_6 : decode cX6_change 6 = .ok (.iastore, 1) := by decide +kernel
theorem dX6_change_7 : decode cX6_change 7 = .ok (.aload_n 0, 1) := by decide +kernel
theorem dX6_change_8 : decode cX6_change 8 = .ok (.getfield 15, 3) := by decide +kernel
theorem dX6_change_11 : decode cX6_change 11 = .ok (.iload_n 1, 1) := by decide +kernel
theorem dX6_change_12 : decode cX6_change 12 = .ok (.iload_n 3, 1) := by decide +kernel
theorem dX6_change_13 : decode cX6_change 13 = .ok (.iastore, 1) := by decide +kernel
theorem dX6_change_14 : decode cX6_change 14 = .ok (.aload_n 0, 1) := by decide +kernel
theorem dX6_change_15 : decode cX6_change 15 = .ok (.getfield 18, 3) := by decide +kernel
theorem dX6_change_18 : decode cX6_change 18 = .ok (.iload_n 1, 1) := by decide +kernel
theorem dX6_change_19 : decode cX6_change 19 = .ok (.iload 4, 2) := by decide +kernel
theorem dX6_change_21 : decode cX6_change 21 = .ok (.iastore, 1) := by decide +kernel
theorem dX6_change_22 : decode cX6_change 22 = .ok (.aload_n 0, 1) := by decide +kernel
theorem dX6_change_23 : decode cX6_change 23 = .ok (.invokevirtual 42, 3) := by decide +kernel
theorem dX6_change_26 : decode cX6_change 26 = .ok (.return_, 1) := by decide +kernel
set_option maxRecDepth 20000 in
theorem ggX6_sortOrder_X6_isBefore : GoodIn wsX6_sortOrder wsX6_isBefore := goodIn_r _ [8, 9, 10, 11, 12, 13, 14, 15, 16, 17] (by decide +kernel) (by decide +kernel)
set_option maxRecDepth 20000 in
theorem gX6_sortOrder_X6_isBefore : GoodIn wsX6_sortOrder (wsV RX6 45 RX6 yX6_isBefore wsX6_isBefore) := goodIn_app (goodIn_of _ (by decide +kernel)) ggX6_sortOrder_X6_isBefore
theorem dX6_sortOrder_0 : decode cX6_sortOrder 0 = .ok (.iconst 1, 1) := by decide +kernel
theorem dX6_sortOrder_1 : decode cX6_sortOrder 1 = .ok (.istore_n 1, 1) := by decide +kernel
theorem dX6_sortOrder_2 : decode cX6_sortOrder 2 = .ok (.iload_n 1, 1) := by decide +kernel
theorem dX6_sortOrder_3 : decode cX6_sortOrder 3 = .ok (.aload_n 0, 1) := by decide +kernel
theorem dX6_sortOrder_4 : decode cX6_sortOrder 4 = .ok (.getfield 30, 3) := by decide +kernel
theorem dX6_sortOrder_7 : decode cX6_sortOrder 7 = .ok (.if_icmp .ge 65, 3) := by decide +kernel
theorem dX6_sortOrder_10 : decode cX6_sortOrder 10 = .ok (.aload_n 0, 1) := by decide +kernel
theorem dX6_sortOrder_11 : decode cX6_sortOrder 11 = .ok (.getfield 24, 3) := by decide +kernel
theorem dX6_sortOrder_14 : decode cX6_sortOrder 14 = .ok (.iload_n 1, 1) := by decide +kernel
theorem dX6_sortOrder_15 : decode cX6_sortOrder 15 = .ok (.iaload, 1) := by decide +kernel
theorem dX6_sortOrder_16 : decode cX6_sortOrder 16 = .ok (.istore_n 2, 1) := by decide +kernel
theorem dX6_sortOrder_17 : decode cX6_sortOrder 17 = .ok (.iload_n 1, 1) := by decide +kernel
theorem dX6_sortOrder_18 : decode cX6_sortOrder 18 = .ok (.istore_n 3, 1) := by decide +kernel
theorem dX6_sortOrder_19 : decode cX6_sortOrder 19 = .ok (.iload_n 3, 1) := by decide +kernel
theorem dX6_sortOrder_20 : decode cX6_sortOrder 20 = .ok (.ifCond .le 39, 3) := by decide +kernel
theorem dX6_sortOrder_23 : decode cX6_sortOrder 23 = .ok (.aload_n 0, 1) := by decide +kernel
theorem dX6_sortOrder_24 : decode cX6_sortOrder 24 = .ok (.iload_n 2, 1) := by decide +kernel
theorem dX6_sortOrder_25 : decode cX6_sortOrder 25 = .ok (.aload_n 0, 1) := by decide +kernel
theorem dX6_sortOrder_26 : decode cX6_sortOrder 26 = .ok (.getfield 24, 3) := by decide +kernel
theorem dX6_sortOrder_29 : decode cX6_sortOrder 29 = .ok (.iload_n 3, 1) := by decide +kernel
theorem dX6_sortOrder_30 : decode cX6_sortOrder 30 = .ok (.iconst 1, 1) := by decide +kernel
theorem dX6_sortOrder_31 : decode cX6_sortOrder 31 = .ok (.isub, 1) := by decide +kernel
theorem dX6_sortOrder_32 : decode cX6_sortOrder 32 = .ok (.iaload, 1) := by decide +kernel
theorem dX6_sortOrder_33 : decode cX6_sortOrder 33 = .ok (.invokevirtual 45, 3) := by decide +kernel
theorem dX6_sortOrder_36 : decode cX6_sortOrder 36 = .ok (.ifCond .eq 23, 3) := by decide +kernel
theorem dX6_sortOrder_39 : decode cX6_sortOrder 39 = .ok (.aload_n 0, 1) := by decide +kernel
theorem dX6_sortOrder_40 : decode cX6_sortOrder 40 = .ok (.getfield 24, 3) := by decide +kernel
theorem dX6_sortOrder_43 : decode cX6_sortOrder 43 = .ok (.iload_n 3, 1) := by decide +kernel
theorem dX6_sortOrder_44 : decode cX6_sortOrder 44 = .ok (.aload_n 0, 1) := by decide +kernel
theorem dX6_sortOrder_45 : decode cX6_sortOrder 45 = .ok (.getfield 24, 3) := by decide +kernel
theorem dX6_sortOrder_48 : decode cX6_sortOrder 48 = .ok (.iload_n 3, 1) := by decide +kernel
theorem dX6_sortOrder_49 : decode cX6_sortOrder 49 = .ok (.iconst 1, 1) := by decide +kernel
theorem dX6_sortOrder_50 : decode cX6_sortOrder 50 = .ok (.isub, 1) := by decide +kernel
theorem dX6_sortOrder_51 : decode cX6_sortOrder 51 = .ok (.iaload, 1) := by decide +kernel
theorem dX6_sortOrder_52 : decode cX6_sortOrder 52 = .ok (.iastore, 1) := by decide +kernel
theorem dX6_sortOrder_53 : decode cX6_sortOrder 53 = .ok (.iinc 3 (-1), 3) := by decide +kernel
theorem dX6_sortOrder_56 : decode cX6_sortOrder 56 = .ok (.goto (-37), 3) := by decide +kernel
theorem dX6_sortOrder_59 : decode cX6_sortOrder 59 = .ok (.aload_n 0, 1) := by decide +kernel
theorem dX6_sortOrder_60 : decode cX6_sortOrder 60 = .ok (.getfield 24, 3) := by decide +kernel
theorem dX6_sortOrder_63 : decode cX6_sortOrder 63 = .ok (.iload_n 3, 1) := by decide +kernel
theorem dX6_sortOrder_64 : decode cX6_sortOrder 64 = .ok (.iload_n 2, 1) := by decide +kernel
theorem dX6_sortOrder_65 : decode cX6_sortOrder 65 = .ok (.iastore, 1) := by decide +kernel
theorem dX6_sortOrder_66 : decode cX6_sortOrder 66 = .ok (.iinc 1 1, 3) := by decide +kernel
theorem dX6_sortOrder_69 : decode cX6_sortOrder 69 = .ok (.goto (-67), 3) := by decide +kernel
theorem dX6_sortOrder_72 : decode cX6_sortOrder 72 = .ok (.iconst 0, 1) := by decide +kernel
theorem dX6_sortOrder_73 : decode cX6_sortOrder 73 = .ok (.istore_n 1, 1) := by decide +kernel
theorem dX6_sortOrder_74 : decode cX6_sortOrder 74 = .ok (.iload_n 1, 1) := by decide +kernel
theorem dX6_sortOrder_75 : decode cX6_sortOrder 75 = .ok (.aload_n 0, 1) := by decide +kernel
theorem dX6_sortOrder_76 : decode cX6_sortOrder 76 = .ok (.getfield 30, 3) := by decide +kernel
theorem dX6_sortOrder_79 : decode cX6_sortOrder 79 = .ok (.if_icmp .ge 21, 3) := by decide +kernel
theorem dX6_sortOrder_82 : decode cX6_sortOrder 82 = .ok (.aload_n 0, 1) := by decide +kernel
theorem dX6_sortOrder_83 : decode cX6_sortOrder 83 = .ok (.getfield 27, 3) := by decide +kernel
theorem dX6_sortOrder_86 : decode cX6_sortOrder 86 = .ok (.aload_n 0, 1) := by decide +kernel
theorem dX6_sortOrder_87 : decode cX6_sortOrder 87 = .ok (.getfield 24, 3) := by decide +kernel
theorem dX6_sortOrder_90 : decode cX6_sortOrder 90 = .ok (.iload_n 1, 1) := by decide +kernel
theorem dX6_sortOrder_91 : decode cX6_sortOrder 91 = .ok (.iaload, 1) := by decide +kernel
theorem dX6_sortOrder_92 : decode cX6_sortOrder 92 = .ok (.iload_n 1, 1) := by decide +kernel
theorem dX6_sortOrder_93 : decode cX6_sortOrder 93 = .ok (.iastore, 1) := by decide +kernel
theorem dX6_sortOrder_94 : decode cX6_sortOrder 94 = .ok (.iinc 1 1, 3) := by decide +kernel
theorem dX6_sortOrder_97 : decode cX6_sortOrder 97 = .ok (.goto (-23), 3) := by decide +kernel
theorem dX6_sortOrder_100 : decode cX6_sortOrder 100 = .ok (.return_, 1) := by decide +kernel
theorem dX6_isBefore_0 : decode cX6_isBefore 0 = .ok (.aload_n 0, 1) := by decide +kernel
theorem dX6_isBefore_1 : decode cX6_isBefore 1 = .ok (.getfield 9, 3) := by decide +kernel
theorem dX6_isBefore_4 : decode cX6_isBefore 4 = .ok (.iload_n 1, 1) := by decide +kernel
theorem dX6_isBefore_5 : decode cX6_isBefore 5 = .ok (.iaload, 1) := by decide +kernel
theorem dX6_isBefore_6 : decode cX6_isBefore 6 = .ok (.aload_n 0, 1) := by decide +kernel
theorem dX6_isBefore_7 : decode cX6_isBefore 7 = .ok (.getfield 9, 3) := by decide +kernel
theorem dX6_isBefore_10 : decode cX6_isBefore 10 = .ok (.iload_n 2, 1) := by decide +kernel
theorem dX6_isBefore_11 : decode cX6_isBefore 11 = .ok (.iaload, 1) := by decide +kernel
theorem dX6_isBefore_12 : decode cX6_isBefore 12 = .ok (.if_icmp .eq 24, 3) := by decide +kernel
theorem dX6_isBefore_15 : decode cX6_isBefore 15 = .ok (.aload_n 0, 1) := by decide +kernel
theorem dX6_isBefore_16 : decode cX6_isBefore 16 = .ok (.getfield 9, 3) := by decide +kernel
theorem dX6_isBefore_19 : decode cX6_isBefore 19 = .ok (.iload_n 1, 1) := by decide +kernel
theorem dX6_isBefore_20 : decode cX6_isBefore 20 = .ok (.iaload, 1) := by decide +kernel
theorem dX6_isBefore_21 : decode cX6_isBefore 21 = .ok (.aload_n 0, 1) := by decide +kernel
theorem dX6_isBefore_22 : decode cX6_isBefore 22 = .ok (.getfield 9, 3) := by decide +kernel
theorem dX6_isBefore_25 : decode cX6_isBefore 25 = .ok (.iload_n 2, 1) := by decide +kernel
theorem dX6_isBefore_26 : decode cX6_isBefore 26 = .ok (.iaload, 1) := by decide +kernel
theorem dX6_isBefore_27 : decode cX6_isBefore 27 = .ok (.if_icmp .ge 7, 3) := by decide +kernel
theorem dX6_isBefore_30 : decode cX6_isBefore 30 = .ok (.iconst 1, 1) := by decide +kernel
theorem dX6_isBefore_31 : decode cX6_isBefore 31 = .ok (.goto 4, 3) := by decide +kernel
theorem dX6_isBefore_34 : decode cX6_isBefore 34 = .ok (.iconst 0, 1) := by decide +kernel
theorem dX6_isBefore_35 : decode cX6_isBefore 35 = .ok (.ireturn, 1) := by decide +kernel
theorem dX6_isBefore_36 : decode cX6_isBefore 36 = .ok (.aload_n 0, 1) := by decide +kernel
theorem dX6_isBefore_37 : decode cX6_isBefore 37 = .ok (.getfield 18, 3) := by decide +kernel
theorem dX6_isBefore_40 : decode cX6_isBefore 40 = .ok (.iload_n 1, 1) := by decide +kernel
theorem dX6_isBefore_41 : decode cX6_isBefore 41 = .ok (.iaload, 1) := by decide +kernel
theorem dX6_isBefore_42 : decode cX6_isBefore 42 = .ok (.aload_n 0, 1) := by decide +kernel
theorem dX6_isBefore_43 : decode cX6_isBefore 43 = .ok (.getfield 18, 3) := by decide +kernel
theorem dX6_isBefore_46 : decode cX6_isBefore 46 = .ok (.iload_n 2, 1) := by decide +kernel
theorem dX6_isBefore_47 : decode cX6_isBefore 47 = .ok (.iaload, 1) := by decide +kernel
theorem dX6_isBefore_48 : decode cX6_isBefore 48 = .ok (.if_icmp .eq 26, 3) := by decide +kernel
theorem dX6_isBefore_51 : decode cX6_isBefore 51 = .ok (.aload_n 0, 1) := by decide +kernel
theorem dX6_isBefore_52 : decode cX6_isBefore 52 = .ok (.getfield 18, 3) := by decide +kernel
theorem dX6_isBefore_55 : decode cX6_isBefore 55 = .ok (.iload_n 1, 1) := by decide +kernel
theorem dX6_isBefore_56 : decode cX6_isBefore 56 = .ok (.iaload, 1) := by decide +kernel
theorem dX6_isBefore_57 : decode cX6_isBefore 57 = .ok (.aload_n 0, 1) := by decide +kernel
theorem dX6_isBefore_58 : decode cX6_isBefore 58 = .ok (.getfield 18, 3) := by decide +kernel
theorem dX6_isBefore_61 : decode cX6_isBefore 61 = .ok (.iload_n 2, 1) := by decide +kernel
theorem dX6_isBefore_62 : decode cX6_isBefore 62 = .ok (.iaload, 1) := by decide +kernel
theorem dX6_isBefore_63 : decode cX6_isBefore 63 = .ok (.if_icmp .le 7, 3) := by decide +kernel
theorem dX6_isBefore_66 : decode cX6_isBefore 66 = .ok (.iconst 1, 1) := by decide +kernel
theorem dX6_isBefore_67 : decode cX6_isBefore 67 = .ok (.goto 17, 3) := by decide +kernel
theorem dX6_isBefore_70 : decode cX6_isBefore 70 = .ok (.iconst 0, 1) := by decide +kernel
theorem dX6_isBefore_71 : decode cX6_isBefore 71 = .ok (.goto 13, 3) := by decide +kernel
theorem dX6_isBefore_74 : decode cX6_isBefore 74 = .ok (.iload_n 1, 1) := by decide +kernel
theorem dX6_isBefore_75 : decode cX6_isBefore 75 = .ok (.iload_n 2, 1) := by decide +kernel
theorem dX6_isBefore_76 : decode cX6_isBefore 76 = .ok (.if_icmp .ge 7, 3) := by decide +kernel
theorem dX6_isBefore_79 : decode cX6_isBefore 79 = .ok (.iconst 1, 1) := by decide +kernel
theorem dX6_isBefore_80 : decode cX6_isBefore 80 = .ok (.goto 4, 3) := by decide +kernel
theorem dX6_isBefore_83 : decode cX6_isBefore 83 = .ok (.iconst 0, 1) := by decide +kernel
theorem dX6_isBefore_84 : decode cX6_isBefore 84 = .ok (.ireturn, 1) := by decide +kernel
theorem dX6_together_0 : decode cX6_together 0 = .ok (.aload_n 0, 1) := by decide +kernel
theorem dX6_together_1 : decode cX6_together 1 = .ok (.getfield 9, 3) := by decide +kernel
theorem dX6_together_4 : decode cX6_together 4 = .ok (.iload_n 1, 1) := by decide +kernel
theorem dX6_together_5 : decode cX6_together 5 = .ok (.iaload, 1) := by decide +kernel
theorem dX6_together_6 : decode cX6_together 6 = .ok (.aload_n 0, 1) := by decide +kernel
theorem dX6_together_7 : decode cX6_together 7 = .ok (.getfield 15, 3) := by decide +kernel
theorem dX6_together_10 : decode cX6_together 10 = .ok (.iload_n 2, 1) := by decide +kernel
theorem dX6_together_11 : decode cX6_together 11 = .ok (.iaload, 1) := by decide +kernel
theorem dX6_together_12 : decode cX6_together 12 = .ok (.if_icmp .ge 22, 3) := by decide +kernel
theorem dX6_together_15 : decode cX6_together 15 = .ok (.aload_n 0, 1) := by decide +kernel
theorem dX6_together_16 : decode cX6_together 16 = .ok (.getfield 9, 3) := by decide +kernel
theorem dX6_together_19 : decode cX6_together 19 = .ok (.iload_n 2, 1) := by decide +kernel
theorem dX6_together_20 : decode cX6_together 20 = .ok (.iaload, 1) := by decide +kernel
theorem dX6_together_21 : decode cX6_together 21 = .ok (.aload_n 0, 1) := by decide +kernel
theorem dX6_together_22 : decode cX6_together 22 = .ok (.getfield 15, 3) := by decide +kernel
theorem dX6_together_25 : decode cX6_together 25 = .ok (.iload_n 1, 1) := by decide +kernel
theorem dX6_together_26 : decode cX6_together 26 = .ok (.iaload, 1) := by decide +kernel
theorem dX6_together_27 : decode cX6_together 27 = .ok (.if_icmp .ge 7, 3) := by decide +kernel
theorem dX6_together_30 : decode cX6_together 30 = .ok (.iconst 1, 1) := by decide +kernel
theorem dX6_together_31 : decode cX6_together 31 = .ok (.goto 4, 3) := by decide +kernel
theorem dX6_together_34 : decode cX6_together 34 = .ok (.iconst 0, 1) := by decide +kernel
theorem dX6_together_35 : decode cX6_together 35 = .ok (.ireturn, 1) := by decide +kernel
theorem dX6_following_0 : decode cX6_following 0 = .ok (.aload_n 0, 1) := by decide +kernel
theorem dX6_following_1 : decode cX6_following 1 = .ok (.getfield 21, 3) := by decide +kernel
theorem dX6_following_4 : decode cX6_following 4 = .ok (.iload_n 1, 1) := by decide +kernel
theorem dX6_following_5 : decode cX6_following 5 = .ok (.iaload, 1) := by decide +kernel
theorem dX6_following_6 : decode cX6_following 6 = .ok (.iconst (-1), 1) := by decide +kernel
theorem dX6_following_7 : decode cX6_following 7 = .ok (.if_icmp .ne 5, 3) := by decide +kernel
theorem dX6_following_10 : decode cX6_following 10 = .ok (.iconst (-1), 1) := by decide +kernel
theorem dX6_following_11 : decode cX6_following 11 = .ok (.ireturn, 1) := by decide +kernel
theorem dX6_following_12 : decode cX6_following 12 = .ok (.aload_n 0, 1) := by decide +kernel
theorem dX6_following_13 : decode cX6_following 13 = .ok (.getfield 27, 3) := by decide +kernel
theorem dX6_following_16 : decode cX6_following 16 = .ok (.iload_n 1, 1) := by decide +kernel
theorem dX6_following_17 : decode cX6_following 17 = .ok (.iaload, 1) := by decide +kernel
theorem dX6_following_18 : decode cX6_following 18 = .ok (.iconst 1, 1) := by decide +kernel
theorem dX6_following_19 : decode cX6_following 19 = .ok (.iadd, 1) := by decide +kernel
theorem dX6_following_20 : decode cX6_following 20 = .ok (.istore_n 2, 1) := by decide +kernel
theorem dX6_following_21 : decode cX6_following 21 = .ok (.iload_n 2, 1) := by decide +kernel
theorem dX6_following_22 : decode cX6_following 22 = .ok (.aload_n 0, 1) := by decide +kernel
theorem dX6_following_23 : decode cX6_following 23 = .ok (.getfield 30, 3) := by decide +kernel
theorem dX6_following_26 : decode cX6_following 26 = .ok (.if_icmp .ge 36, 3) := by decide +kernel
theorem dX6_following_29 : decode cX6_following 29 = .ok (.aload_n 0, 1) := by decide +kernel
theorem dX6_following_30 : decode cX6_following 30 = .ok (.getfield 21, 3) := by decide +kernel
theorem dX6_following_33 : decode cX6_following 33 = .ok (.aload_n 0, 1) := by decide +kernel
theorem dX6_following_34 : decode cX6_following 34 = .ok (.getfield 24, 3) := by decide +kernel
theorem dX6_following_37 : decode cX6_following 37 = .ok (.iload_n 2, 1) := by decide +kernel
theorem dX6_following_38 : decode cX6_following 38 = .ok (.iaload, 1) := by decide +kernel
theorem dX6_following_39 : decode cX6_following 39 = .ok (.iaload, 1) := by decide +kernel
theorem dX6_following_40 : decode cX6_following 40 = .ok (.aload_n 0, 1) := by decide +kernel
theorem dX6_following_41 : decode cX6_following 41 = .ok (.getfield 21, 3) := by decide +kernel
theorem dX6_following_44 : decode cX6_following 44 = .ok (.iload_n 1, 1) := by decide +kernel
theorem dX6_following_45 : decode cX6_following 45 = .ok (.iaload, 1) := by decide +kernel
theorem dX6_following_46 : decode cX6_following 46 = .ok (.if_icmp .ne 10, 3) := by decide +kernel
theorem dX6_following_49 : decode cX6_following 49 = .ok (.aload_n 0, 1) := by decide +kernel
theorem dX6_following_50 : decode cX6_following 50 = .ok (.getfield 24, 3) := by decide +kernel
theorem dX6_following_53 : decode cX6_following 53 = .ok (.iload_n 2, 1) := by decide +kernel
theorem dX6_following_54 : decode cX6_following 54 = .ok (.iaload, 1) := by decide +kernel
theorem dX6_following_55 : decode cX6_following 55 = .ok (.ireturn, 1) := by decide +kernel
theorem dX6_following_56 : decode cX6_following 56 = .ok (.iinc 2 1, 3) := by decide +kernel
theorem dX6_following_59 : decode cX6_following 59 = .ok (.goto (-38), 3) := by decide +kernel
theorem dX6_following_62 : decode cX6_following 62 = .ok (.iconst (-1), 1) := by decide +kernel
theorem dX6_following_63 : decode cX6_following 63 = .ok (.ireturn, 1) := by decide +kernel
set_option maxRecDepth 20000 in
theorem ggX6_clashes_X6_together : GoodIn wsX6_clashes wsX6_together := goodIn_r _ [7, 8, 9, 10, 11, 12, 13, 14, 15, 16] (by decide +kernel) (by decide +kernel)
set_option maxRecDepth 20000 in
theorem gX6_clashes_X6_together : GoodIn wsX6_clashes (wsV RX6 49 RX6 yX6_together wsX6_together) := goodIn_app (goodIn_of _ (by decide +kernel)) ggX6_clashes_X6_together
theorem dX6_clashes_0 : decode cX6_clashes 0 = .ok (.iconst 0, 1) := by decide +kernel
theorem dX6_clashes_1 : decode cX6_clashes 1 = .ok (.istore_n 2, 1) := by decide +kernel
theorem dX6_clashes_2 : decode cX6_clashes 2 = .ok (.iconst 0, 1) := by decide +kernel
theorem dX6_clashes_3 : decode cX6_clashes 3 = .ok (.istore_n 3, 1) := by decide +kernel
theorem dX6_clashes_4 : decode cX6_clashes 4 = .ok (.iload_n 3, 1) := by decide +kernel
theorem dX6_clashes_5 : decode cX6_clashes 5 = .ok (.aload_n 0, 1) := by decide +kernel
theorem dX6_clashes_6 : decode cX6_clashes 6 = .ok (.getfield 30, 3) := by decide +kernel
theorem dX6_clashes_9 : decode cX6_clashes 9 = .ok (.if_icmp .ge 51, 3) := by decide +kernel
theorem dX6_clashes_12 : decode cX6_clashes 12 = .ok (.aload_n 0, 1) := by decide +kernel
theorem dX6_clashes_13 : decode cX6_clashes 13 = .ok (.getfield 21, 3) := by decide +kernel
theorem dX6_clashes_16 : decode cX6_clashes 16 = .ok (.iload_n 1, 1) := by decide +kernel
theorem dX6_clashes_17 : decode cX6_clashes 17 = .ok (.iaload, 1) := by decide +kernel
theorem dX6_clashes_18 : decode cX6_clashes 18 = .ok (.iconst (-1), 1) := by decide +kernel
theorem dX6_clashes_19 : decode cX6_clashes 19 = .ok (.if_icmp .eq 41, 3) := by decide +kernel
theorem dX6_clashes_22 : decode cX6_clashes 22 = .ok (.iload_n 3, 1) := by decide +kernel
theorem dX6_clashes_23 : decode cX6_clashes 23 = .ok (.iload_n 1, 1) := by decide +kernel
theorem dX6_clashes_24 : decode cX6_clashes 24 = .ok (.if_icmp .eq 30, 3) := by decide +kernel
theorem dX6_clashes_27 : decode cX6_clashes 27 = .ok (.aload_n 0, 1) := by decide +kernel
theorem dX6_clashes_28 : decode cX6_clashes 28 = .ok (.getfield 21, 3) := by decide +kernel
theorem dX6_clashes_31 : decode cX6_clashes 31 = .ok (.iload_n 3, 1) := by decide +kernel
theorem dX6_clashes_32 : decode cX6_clashes 32 = .ok (.iaload, 1) := by decide +kernel
theorem dX6_clashes_33 : decode cX6_clashes 33 = .ok (.aload_n 0, 1) := by decide +kernel
theorem dX6_clashes_34 : decode cX6_clashes 34 = .ok (.getfield 21, 3) := by decide +kernel
theorem dX6_clashes_37 : decode cX6_clashes 37 = .ok (.iload_n 1, 1) := by decide +kernel
theorem dX6_clashes_38 : decode cX6_clashes 38 = .ok (.iaload, 1) := by decide +kernel
theorem dX6_clashes_39 : decode cX6_clashes 39 = .ok (.if_icmp .ne 15, 3) := by decide +kernel
theorem dX6_clashes_42 : decode cX6_clashes 42 = .ok (.aload_n 0, 1) := by decide +kernel
theorem dX6_clashes_43 : decode cX6_clashes 43 = .ok (.iload_n 1, 1) := by decide +kernel
theorem dX6_clashes_44 : decode cX6_clashes 44 = .ok (.iload_n 3, 1) := by decide +kernel
theorem dX6_clashes_45 : decode cX6_clashes 45 = .ok (.invokevirtual 49, 3) := by decide +kernel
theorem dX6_clashes_48 : decode cX6_clashes 48 = .ok (.ifCond .eq 6, 3) := by decide +kernel
theorem dX6_clashes_51 : decode cX6_clashes 51 = .ok (.iinc 2 1, 3) := by decide +kernel
theorem dX6_clashes_54 : decode cX6_clashes 54 = .ok (.iinc 3 1, 3) := by decide +kernel
theorem dX6_clashes_57 : decode cX6_clashes 57 = .ok (.goto (-53), 3) := by decide +kernel
theorem dX6_clashes_60 : decode cX6_clashes 60 = .ok (.iload_n 2, 1) := by decide +kernel
theorem dX6_clashes_61 : decode cX6_clashes 61 = .ok (.ireturn, 1) := by decide +kernel
set_option maxRecDepth 20000 in
theorem ggX6_isWhole_X6_following : GoodIn wsX6_isWhole wsX6_following := goodIn_r _ [7, 2, 8, 1, 9, 16, 17, 18, 19, 20, 21, 22] (by decide +kernel) (by decide +kernel)
set_option maxRecDepth 20000 in
theorem gX6_isWhole_X6_following : GoodIn wsX6_isWhole (wsV RX6 52 RX6 yX6_following wsX6_following) := goodIn_app (goodIn_of _ (by decide +kernel)) ggX6_isWhole_X6_following
set_option maxRecDepth 20000 in
theorem ggX6_isWhole_X6_together : GoodIn wsX6_isWhole wsX6_together := goodIn_r _ [13, 14, 15, 16, 17, 18, 19, 20, 21, 22] (by decide +kernel) (by decide +kernel)
set_option maxRecDepth 20000 in
theorem gX6_isWhole_X6_together : GoodIn wsX6_isWhole (wsV RX6 49 RX6 yX6_together wsX6_together) := goodIn_app (goodIn_of _ (by decide +kernel)) ggX6_isWhole_X6_together
theorem dX6_isWhole_0 : decode cX6_isWhole 0 = .ok (.iconst 0, 1) := by decide +kernel
theorem dX6_isWhole_1 : decode cX6_isWhole 1 = .ok (.istore_n 1, 1) := by decide +kernel
theorem dX6_isWhole_2 : decode cX6_isWhole 2 = .ok (.iload_n 1, 1) := by decide +kernel
theorem dX6_isWhole_3 : decode cX6_isWhole 3 = .ok (.aload_n 0, 1) := by decide +kernel
theorem dX6_isWhole_4 : decode cX6_isWhole 4 = .ok (.getfield 30, 3) := by decide +kernel
theorem dX6_isWhole_7 : decode cX6_isWhole 7 = .ok (.if_icmp .ge 41, 3) := by decide +kernel
theorem dX6_isWhole_10 : decode cX6_isWhole 10 = .ok (.aload_n 0, 1) := by decide +kernel
theorem dX6_isWhole_11 : decode cX6_isWhole 11 = .ok (.iload_n 1, 1) := by decide +kernel
theorem dX6_isWhole_12 : decode cX6_isWhole 12 = .ok (.invokevirtual 52, 3) := by decide +kernel
theorem dX6_isWhole_15 : decode cX6_isWhole 15 = .ok (.istore_n 2, 1) := by decide +kernel
theorem dX6_isWhole_16 : decode cX6_isWhole 16 = .ok (.aload_n 0, 1) := by decide +kernel
theorem dX6_isWhole_17 : decode cX6_isWhole 17 = .ok (.getfield 21, 3) := by decide +kernel
theorem dX6_isWhole_20 : decode cX6_isWhole 20 = .ok (.iload_n 1, 1) := by decide +kernel
theorem dX6_isWhole_21 : decode cX6_isWhole 21 = .ok (.iaload, 1) := by decide +kernel
theorem dX6_isWhole_22 : decode cX6_isWhole 22 = .ok (.iconst (-1), 1) := by decide +kernel
theorem dX6_isWhole_23 : decode cX6_isWhole 23 = .ok (.if_icmp .eq 17, 3) := by decide +kernel
theorem dX6_isWhole_26 : decode cX6_isWhole 26 = .ok (.iload_n 2, 1) := by decide +kernel
theorem dX6_isWhole_27 : decode cX6_isWhole 27 = .ok (.iconst (-1), 1) := by decide +kernel
theorem dX6_isWhole_28 : decode cX6_isWhole 28 = .ok (.if_icmp .eq 14, 3) := by decide +kernel
theorem dX6_isWhole_31 : decode cX6_isWhole 31 = .ok (.aload_n 0, 1) := by decide +kernel
theorem dX6_isWhole_32 : decode cX6_isWhole 32 = .ok (.iload_n 1, 1) := by decide +kernel
theorem dX6_isWhole_33 : decode cX6_isWhole 33 = .ok (.iload_n 2, 1) := by decide +kernel
theorem dX6_isWhole_34 : decode cX6_isWhole 34 = .ok (.invokevirtual 49, 3) := by decide +kernel
theorem dX6_isWhole_37 : decode cX6_isWhole 37 = .ok (.ifCond .eq 5, 3) := by decide +kernel
theorem dX6_isWhole_40 : decode cX6_isWhole 40 = .ok (.iconst 0, 1) := by decide +kernel
theorem dX6_isWhole_41 : decode cX6_isWhole 41 = .ok (.ireturn, 1) := by decide +kernel
theorem dX6_isWhole_42 : decode cX6_isWhole 42 = .ok (.iinc 1 1, 3) := by decide +kernel
theorem dX6_isWhole_45 : decode cX6_isWhole 45 = .ok (.goto (-43), 3) := by decide +kernel
theorem dX6_isWhole_48 : decode cX6_isWhole 48 = .ok (.iconst 1, 1) := by decide +kernel
theorem dX6_isWhole_49 : decode cX6_isWhole 49 = .ok (.ireturn, 1) := by decide +kernel
theorem dX6_soundingAt_0 : decode cX6_soundingAt 0 = .ok (.iconst 0, 1) := by decide +kernel
theorem dX6_soundingAt_1 : decode cX6_soundingAt 1 = .ok (.istore_n 2, 1) := by decide +kernel
theorem dX6_soundingAt_2 : decode cX6_soundingAt 2 = .ok (.iconst 0, 1) := by decide +kernel
theorem dX6_soundingAt_3 : decode cX6_soundingAt 3 = .ok (.istore_n 3, 1) := by decide +kernel
theorem dX6_soundingAt_4 : decode cX6_soundingAt 4 = .ok (.iload_n 3, 1) := by decide +kernel
theorem dX6_soundingAt_5 : decode cX6_soundingAt 5 = .ok (.aload_n 0, 1) := by decide +kernel
theorem dX6_soundingAt_6 : decode cX6_soundingAt 6 = .ok (.getfield 30, 3) := by decide +kernel
theorem dX6_soundingAt_9 : decode cX6_soundingAt 9 = .ok (.if_icmp .ge 32, 3) := by decide +kernel
theorem dX6_soundingAt_12 : decode cX6_soundingAt 12 = .ok (.aload_n 0, 1) := by decide +kernel
theorem dX6_soundingAt_13 : decode cX6_soundingAt 13 = .ok (.getfield 9, 3) := by decide +kernel
theorem dX6_soundingAt_16 : decode cX6_soundingAt 16 = .ok (.iload_n 3, 1) := by decide +kernel
theorem dX6_soundingAt_17 : decode cX6_soundingAt 17 = .ok (.iaload, 1) := by decide +kernel
theorem dX6_soundingAt_18 : decode cX6_soundingAt 18 = .ok (.iload_n 1, 1) := by decide +kernel
theorem dX6_soundingAt_19 : decode cX6_soundingAt 19 = .ok (.if_icmp .gt 16, 3) := by decide +kernel
theorem dX6_soundingAt_22 : decode cX6_soundingAt 22 = .ok (.iload_n 1, 1) := by decide +kernel
theorem dX6_soundingAt_23 : decode cX6_soundingAt 23 = .ok (.aload_n 0, 1) := by decide +kernel
theorem dX6_soundingAt_24 : decode cX6_soundingAt 24 = .ok (.getfield 15, 3) := by decide +kernel
theorem dX6_soundingAt_27 : decode cX6_soundingAt 27 = .ok (.iload_n 3, 1) := by decide +kernel
theorem dX6_soundingAt_28 : decode cX6_soundingAt 28 = .ok (.iaload, 1) := by decide +kernel
theorem dX6_soundingAt_29 : decode cX6_soundingAt 29 = .ok (.if_icmp .ge 6, 3) := by decide +kernel
theorem dX6_soundingAt_32 : decode cX6_soundingAt 32 = .ok (.iinc 2 1, 3) := by decide +kernel
theorem dX6_soundingAt_35 : decode cX6_soundingAt 35 = .ok (.iinc 3 1, 3) := by decide +kernel
theorem dX6_soundingAt_38 : decode cX6_soundingAt 38 = .ok (.goto (-34), 3) := by decide +kernel
theorem dX6_soundingAt_41 : decode cX6_soundingAt 41 = .ok (.iload_n 2, 1) := by decide +kernel
theorem dX6_soundingAt_42 : decode cX6_soundingAt 42 = .ok (.ireturn, 1) := by decide +kernel
set_option maxRecDepth 20000 in
theorem ggX6_thickest_X6_soundingAt : GoodIn wsX6_thickest wsX6_soundingAt := goodIn_r _ [11, 1, 2, 12, 13, 14, 15, 16, 17, 18, 19] (by decide +kernel) (by decide +kernel)
set_option maxRecDepth 20000 in
theorem gX6_thickest_X6_soundingAt : GoodIn wsX6_thickest (wsV RX6 56 RX6 yX6_soundingAt wsX6_soundingAt) := goodIn_app (goodIn_of _ (by decide +kernel)) ggX6_thickest_X6_soundingAt
theorem dX6_thickest_0 : decode cX6_thickest 0 = .ok (.iconst 0, 1) := by decide +kernel
theorem dX6_thickest_1 : decode cX6_thickest 1 = .ok (.istore_n 1, 1) := by decide +kernel
theorem dX6_thickest_2 : decode cX6_thickest 2 = .ok (.iconst 0, 1) := by decide +kernel
theorem dX6_thickest_3 : decode cX6_thickest 3 = .ok (.istore_n 2, 1) := by decide +kernel
theorem dX6_thickest_4 : decode cX6_thickest 4 = .ok (.iload_n 2, 1) := by decide +kernel
theorem dX6_thickest_5 : decode cX6_thickest 5 = .ok (.aload_n 0, 1) := by decide +kernel
theorem dX6_thickest_6 : decode cX6_thickest 6 = .ok (.getfield 30, 3) := by decide +kernel
theorem dX6_thickest_9 : decode cX6_thickest 9 = .ok (.if_icmp .ge 24, 3) := by decide +kernel
theorem dX6_thickest_12 : decode cX6_thickest 12 = .ok (.iload_n 1, 1) := by decide +kernel
theorem dX6_thickest_13 : decode cX6_thickest 13 = .ok (.aload_n 0, 1) := by decide +kernel
theorem dX6_thickest_14 : decode cX6_thickest 14 = .ok (.aload_n 0, 1) := by decide +kernel
theorem dX6_thickest_15 : decode cX6_thickest 15 = .ok (.getfield 9, 3) := by decide +kernel
theorem dX6_thickest_18 : decode cX6_thickest 18 = .ok (.iload_n 2, 1) := by decide +kernel
theorem dX6_thickest_19 : decode cX6_thickest 19 = .ok (.iaload, 1) := by decide +kernel
theorem dX6_thickest_20 : decode cX6_thickest 20 = .ok (.invokevirtual 56, 3) := by decide +kernel
theorem dX6_thickest_23 : decode cX6_thickest 23 = .ok (.invokestatic 59, 3) := by decide +kernel
theorem dX6_thickest_26 : decode cX6_thickest 26 = .ok (.istore_n 1, 1) := by decide +kernel
theorem dX6_thickest_27 : decode cX6_thickest 27 = .ok (.iinc 2 1, 3) := by decide +kernel
theorem dX6_thickest_30 : decode cX6_thickest 30 = .ok (.goto (-26), 3) := by decide +kernel
theorem dX6_thickest_33 : decode cX6_thickest 33 = .ok (.iload_n 1, 1) := by decide +kernel
theorem dX6_thickest_34 : decode cX6_thickest 34 = .ok (.ireturn, 1) := by decide +kernel
theorem dX6_theEnd_0 : decode cX6_theEnd 0 = .ok (.iconst 0, 1) := by decide +kernel
theorem dX6_theEnd_1 : decode cX6_theEnd 1 = .ok (.istore_n 1, 1) := by decide +kernel
theorem dX6_theEnd_2 : decode cX6_theEnd 2 = .ok (.iconst 0, 1) := by decide +kernel
theorem dX6_theEnd_3 : decode cX6_theEnd 3 = .ok (.istore_n 2, 1) := by decide +kernel
theorem dX6_theEnd_4 : decode cX6_theEnd 4 = .ok (.iload_n 2, 1) := by decide +kernel
theorem dX6_theEnd_5 : decode cX6_theEnd 5 = .ok (.aload_n 0, 1) := by decide +kernel
theorem dX6_theEnd_6 : decode cX6_theEnd 6 = .ok (.getfield 30, 3) := by decide +kernel
theorem dX6_theEnd_9 : decode cX6_theEnd 9 = .ok (.if_icmp .ge 20, 3) := by decide +kernel
theorem dX6_theEnd_12 : decode cX6_theEnd 12 = .ok (.iload_n 1, 1) := by decide +kernel
theorem dX6_theEnd_13 : decode cX6_theEnd 13 = .ok (.aload_n 0, 1) := by decide +kernel
theorem dX6_theEnd_14 : decode cX6_theEnd 14 = .ok (.getfield 15, 3) := by decide +kernel
theorem dX6_theEnd_17 : decode cX6_theEnd 17 = .ok (.iload_n 2, 1) := by decide +kernel
theorem dX6_theEnd_18 : decode cX6_theEnd 18 = .ok (.iaload, 1) := by decide +kernel
theorem dX6_theEnd_19 : decode cX6_theEnd 19 = .ok (.invokestatic 59, 3) := by decide +kernel
theorem dX6_theEnd_22 : decode cX6_theEnd 22 = .ok (.istore_n 1, 1) := by decide +kernel
theorem dX6_theEnd_23 : decode cX6_theEnd 23 = .ok (.iinc 2 1, 3) := by decide +kernel
theorem dX6_theEnd_26 : decode cX6_theEnd 26 = .ok (.goto (-22), 3) := by decide +kernel
theorem dX6_theEnd_29 : decode cX6_theEnd 29 = .ok (.iload_n 1, 1) := by decide +kernel
theorem dX6_theEnd_30 : decode cX6_theEnd 30 = .ok (.ireturn, 1) := by decide +kernel
theorem dX6_notesIn_0 : decode cX6_notesIn 0 = .ok (.iconst 0, 1) := by decide +kernel
theorem dX6_notesIn_1 : decode cX6_notesIn 1 = .ok (.istore_n 2, 1) := by decide +kernel
theorem dX6_notesIn_2 : decode cX6_notesIn 2 = .ok (.iconst 0, 1) := by decide +kernel
theorem dX6_notesIn_3 : decode cX6_notesIn 3 = .ok (.istore_n 3, 1) := by decide +kernel
theorem dX6_notesIn_4 : decode cX6_notesIn 4 = .ok (.iload_n 3, 1) := by decide +kernel
theorem dX6_notesIn_5 : decode cX6_notesIn 5 = .ok (.aload_n 0, 1) := by decide +kernel
theorem dX6_notesIn_6 : decode cX6_notesIn 6 = .ok (.getfield 30, 3) := by decide +kernel
theorem dX6_notesIn_9 : decode cX6_notesIn 9 = .ok (.if_icmp .ge 22, 3) := by decide +kernel
theorem dX6_notesIn_12 : decode cX6_notesIn 12 = .ok (.aload_n 0, 1) := by decide +kernel
theorem dX6_notesIn_13 : decode cX6_notesIn 13 = .ok (.getfield 21, 3) := by decide +kernel
theorem dX6_notesIn_16 : decode cX6_notesIn 16 = .ok (.iload_n 3, 1) := by decide +kernel
theorem dX6_notesIn_17 : decode cX6_notesIn 17 = .ok (.iaload, 1) := by decide +kernel
theorem dX6_notesIn_18 : decode cX6_notesIn 18 = .ok (.iload_n 1, 1) := by decide +kernel
theorem dX6_notesIn_19 : decode cX6_notesIn 19 = .ok (.if_icmp .ne 6, 3) := by decide +kernel
theorem dX6_notesIn_22 : decode cX6_notesIn 22 = .ok (.iinc 2 1, 3) := by decide +kernel
theorem dX6_notesIn_25 : decode cX6_notesIn 25 = .ok (.iinc 3 1, 3) := by decide +kernel
theorem dX6_notesIn_28 : decode cX6_notesIn 28 = .ok (.goto (-24), 3) := by decide +kernel
theorem dX6_notesIn_31 : decode cX6_notesIn 31 = .ok (.iload_n 2, 1) := by decide +kernel
theorem dX6_notesIn_32 : decode cX6_notesIn 32 = .ok (.ireturn, 1) := by decide +kernel
set_option maxRecDepth 20000 in
theorem ggX6_voicesUsed_X6_notesIn : GoodIn wsX6_voicesUsed wsX6_notesIn := goodIn_r _ [5, 6, 7, 8, 9, 10, 11, 12, 13, 14] (by decide +kernel) (by decide +kernel)
set_option maxRecDepth 20000 in
theorem gX6_voicesUsed_X6_notesIn : GoodIn wsX6_voicesUsed (wsV RX6 65 RX6 yX6_notesIn wsX6_notesIn) := goodIn_app (goodIn_of _ (by decide +kernel)) ggX6_voicesUsed_X6_notesIn
theorem dX6_voicesUsed_0 : decode cX6_voicesUsed 0 = .ok (.iconst 0, 1) := by decide +kernel
theorem dX6_voicesUsed_1 : decode cX6_voicesUsed 1 = .ok (.istore_n 1, 1) := by decide +kernel
theorem dX6_voicesUsed_2 : decode cX6_voicesUsed 2 = .ok (.iconst 0, 1) := by decide +kernel
theorem dX6_voicesUsed_3 : decode cX6_voicesUsed 3 = .ok (.istore_n 2, 1) := by decide +kernel
theorem dX6_voicesUsed_4 : decode cX6_voicesUsed 4 = .ok (.iload_n 2, 1) := by decide +kernel
theorem dX6_voicesUsed_5 : decode cX6_voicesUsed 5 = .ok (.iconst 4, 1) := by decide +kernel
theorem dX6_voicesUsed_6 : decode cX6_voicesUsed 6 = .ok (.if_icmp .ge 20, 3) := by decide +kernel
theorem dX6_voicesUsed_9 : decode cX6_voicesUsed 9 = .ok (.aload_n 0, 1) := by decide +kernel
theorem dX6_voicesUsed_10 : decode cX6_voicesUsed 10 = .ok (.iload_n 2, 1) := by decide +kernel
theorem dX6_voicesUsed_11 : decode cX6_voicesUsed 11 = .ok (.invokevirtual 65, 3) := by decide +kernel
theorem dX6_voicesUsed_14 : decode cX6_voicesUsed 14 = .ok (.ifCond .le 6, 3) := by decide +kernel
theorem dX6_voicesUsed_17 : decode cX6_voicesUsed 17 = .ok (.iinc 1 1, 3) := by decide +kernel
theorem dX6_voicesUsed_20 : decode cX6_voicesUsed 20 = .ok (.iinc 2 1, 3) := by decide +kernel
theorem dX6_voicesUsed_23 : decode cX6_voicesUsed 23 = .ok (.goto (-19), 3) := by decide +kernel
theorem dX6_voicesUsed_26 : decode cX6_voicesUsed 26 = .ok (.iload_n 1, 1) := by decide +kernel
theorem dX6_voicesUsed_27 : decode cX6_voicesUsed 27 = .ok (.ireturn, 1) := by decide +kernel
theorem dX6_lowestIn_0 : decode cX6_lowestIn 0 = .ok (.iconst (-1), 1) := by decide +kernel
theorem dX6_lowestIn_1 : decode cX6_lowestIn 1 = .ok (.istore_n 2, 1) := by decide +kernel
theorem dX6_lowestIn_2 : decode cX6_lowestIn 2 = .ok (.iconst 0, 1) := by decide +kernel
theorem dX6_lowestIn_3 : decode cX6_lowestIn 3 = .ok (.istore_n 3, 1) := by decide +kernel
theorem dX6_lowestIn_4 : decode cX6_lowestIn 4 = .ok (.iload_n 3, 1) := by decide +kernel
theorem dX6_lowestIn_5 : decode cX6_lowestIn 5 = .ok (.aload_n 0, 1) := by decide +kernel
theorem dX6_lowestIn_6 : decode cX6_lowestIn 6 = .ok (.getfield 30, 3) := by decide +kernel
theorem dX6_lowestIn_9 : decode cX6_lowestIn 9 = .ok (.if_icmp .ge 41, 3) := by decide +kernel
theorem dX6_lowestIn_12 : decode cX6_lowestIn 12 = .ok (.aload_n 0, 1) := by decide +kernel
theorem dX6_lowestIn_13 : decode cX6_lowestIn 13 = .ok (.getfield 21, 3) := by decide +kernel
theorem dX6_lowestIn_16 : decode cX6_lowestIn 16 = .ok (.iload_n 3, 1) := by decide +kernel
theorem dX6_lowestIn_17 : decode cX6_lowestIn 17 = .ok (.iaload, 1) := by decide +kernel
theorem dX6_lowestIn_18 : decode cX6_lowestIn 18 = .ok (.iload_n 1, 1) := by decide +kernel
theorem dX6_lowestIn_19 : decode cX6_lowestIn 19 = .ok (.if_icmp .ne 25, 3) := by decide +kernel
theorem dX6_lowestIn_22 : decode cX6_lowestIn 22 = .ok (.iload_n 2, 1) := by decide +kernel
theorem dX6_lowestIn_23 : decode cX6_lowestIn 23 = .ok (.iconst (-1), 1) := by decide +kernel
theorem dX6_lowestIn_24 : decode cX6_lowestIn 24 = .ok (.if_icmp .eq 13, 3) := by decide +kernel
theorem dX6_lowestIn_27 : decode cX6_lowestIn 27 = .ok (.aload_n 0, 1) := by decide +kernel
theorem dX6_lowestIn_28 : decode cX6_lowestIn 28 = .ok (.getfield 18, 3) := by decide +kernel
theorem dX6_lowestIn_31 : decode cX6_lowestIn 31 = .ok (.iload_n 3, 1) := by decide +kernel
theorem dX6_lowestIn_32 : decode cX6_lowestIn 32 = .ok (.iaload, 1) := by decide +kernel
theorem dX6_lowestIn_33 : decode cX6_lowestIn 33 = .ok (.iload_n 2, 1) := by decide +kernel
theorem dX6_lowestIn_34 : decode cX6_lowestIn 34 = .ok (.if_icmp .ge 10, 3) := by decide +kernel
theorem dX6_lowestIn_37 : decode cX6_lowestIn 37 = .ok (.aload_n 0, 1) := by decide +kernel
theorem dX6_lowestIn_38 : decode cX6_lowestIn 38 = .ok (.getfield 18, 3) := by decide +kernel
theorem dX6_lowestIn_41 : decode cX6_lowestIn 41 = .ok (.iload_n 3, 1) := by decide +kernel
theorem dX6_lowestIn_42 : decode cX6_lowestIn 42 = .ok (.iaload, 1) := by decide +kernel
theorem dX6_lowestIn_43 : decode cX6_lowestIn 43 = .ok (.istore_n 2, 1) := by decide +kernel
theorem dX6_lowestIn_44 : decode cX6_lowestIn 44 = .ok (.iinc 3 1, 3) := by decide +kernel
theorem dX6_lowestIn_47 : decode cX6_lowestIn 47 = .ok (.goto (-43), 3) := by decide +kernel
theorem dX6_lowestIn_50 : decode cX6_lowestIn 50 = .ok (.iload_n 2, 1) := by decide +kernel
theorem dX6_lowestIn_51 : decode cX6_lowestIn 51 = .ok (.ireturn, 1) := by decide +kernel
theorem dX6_highestIn_0 : decode cX6_highestIn 0 = .ok (.iconst (-1), 1) := by decide +kernel
theorem dX6_highestIn_1 : decode cX6_highestIn 1 = .ok (.istore_n 2, 1) := by decide +kernel
theorem dX6_highestIn_2 : decode cX6_highestIn 2 = .ok (.iconst 0, 1) := by decide +kernel
theorem dX6_highestIn_3 : decode cX6_highestIn 3 = .ok (.istore_n 3, 1) := by decide +kernel
theorem dX6_highestIn_4 : decode cX6_highestIn 4 = .ok (.iload_n 3, 1) := by decide +kernel
theorem dX6_highestIn_5 : decode cX6_highestIn 5 = .ok (.aload_n 0, 1) := by decide +kernel
theorem dX6_highestIn_6 : decode cX6_highestIn 6 = .ok (.getfield 30, 3) := by decide +kernel
theorem dX6_highestIn_9 : decode cX6_highestIn 9 = .ok (.if_icmp .ge 30, 3) := by decide +kernel
theorem dX6_highestIn_12 : decode cX6_highestIn 12 = .ok (.aload_n 0, 1) := by decide +kernel
theorem dX6_highestIn_13 : decode cX6_highestIn 13 = .ok (.getfield 21, 3) := by decide +kernel
theorem dX6_highestIn_16 : decode cX6_highestIn 16 = .ok (.iload_n 3, 1) := by decide +kernel
theorem dX6_highestIn_17 : decode cX6_highestIn 17 = .ok (.iaload, 1) := by decide +kernel
theorem dX6_highestIn_18 : decode cX6_highestIn 18 = .ok (.iload_n 1, 1) := by decide +kernel
theorem dX6_highestIn_19 : decode cX6_highestIn 19 = .ok (.if_icmp .ne 14, 3) := by decide +kernel
theorem dX6_highestIn_22 : decode cX6_highestIn 22 = .ok (.iload_n 2, 1) := by decide +kernel
theorem dX6_highestIn_23 : decode cX6_highestIn 23 = .ok (.aload_n 0, 1) := by decide +kernel
theorem dX6_highestIn_24 : decode cX6_highestIn 24 = .ok (.getfield 18, 3) := by decide +kernel
theorem dX6_highestIn_27 : decode cX6_highestIn 27 = .ok (.iload_n 3, 1) := by decide +kernel
theorem dX6_highestIn_28 : decode cX6_highestIn 28 = .ok (.iaload, 1) := by decide +kernel
theorem dX6_highestIn_29 : decode cX6_highestIn 29 = .ok (.invokestatic 59, 3) := by decide +kernel
theorem dX6_highestIn_32 : decode cX6_highestIn 32 = .ok (.istore_n 2, 1) := by decide +kernel
theorem dX6_highestIn_33 : decode cX6_highestIn 33 = .ok (.iinc 3 1, 3) := by decide +kernel
theorem dX6_highestIn_36 : decode cX6_highestIn 36 = .ok (.goto (-32), 3) := by decide +kernel
theorem dX6_highestIn_39 : decode cX6_highestIn 39 = .ok (.iload_n 2, 1) := by decide +kernel
theorem dX6_highestIn_40 : decode cX6_highestIn 40 = .ok (.ireturn, 1) := by decide +kernel
set_option maxRecDepth 20000 in
theorem ggX7_init_X6_init : GoodIn wsX7_init wsX6_init := goodIn_r _ [40, 41, 2, 3, 42, 43, 44, 45, 46, 47, 48, 90, 91, 92, 93, 94, 95, 96] (by decide +kernel) (by decide +kernel)
set_option maxRecDepth 20000 in
theorem gX7_init_X6_init_n9 : GoodIn wsX7_init (wsX6_init) := ggX7_init_X6_init
set_option maxRecDepth 20000 in
theorem ggX7_init_X5_init : GoodIn wsX7_init wsX5_init := goodIn_r _ [51, 52, 2, 3, 42, 53, 54, 55, 104, 105, 106, 107] (by decide +kernel) (by decide +kernel)
set_option maxRecDepth 20000 in
theorem gX7_init_X5_init : GoodIn wsX7_init (wsX5_init) := ggX7_init_X5_init
set_option maxRecDepth 20000 in
theorem ggX7_init_X4_init : GoodIn wsX7_init wsX4_init := goodIn_r _ [58, 59, 2, 3, 60, 108, 109, 110] (by decide +kernel) (by decide +kernel)
set_option maxRecDepth 20000 in
theorem gX7_init_X4_init : GoodIn wsX7_init (wsX4_init) := ggX7_init_X4_init
set_option maxRecDepth 20000 in
theorem ggX7_init_X0_init : GoodIn wsX7_init wsX0_init := goodIn_r _ [63, 64, 2, 3, 65, 66, 67, 111, 112, 113] (by decide +kernel) (by decide +kernel)
set_option maxRecDepth 20000 in
theorem gX7_init_X0_init : GoodIn wsX7_init (wsX0_init) := ggX7_init_X0_init
set_option maxRecDepth 20000 in
theorem ggX7_init_X3_init : GoodIn wsX7_init wsX3_init := goodIn_r _ [70, 71, 2, 3, 42, 72, 73, 74, 114, 115, 116] (by decide +kernel) (by decide +kernel)
set_option maxRecDepth 20000 in
theorem gX7_init_X3_init : GoodIn wsX7_init (wsX3_init) := ggX7_init_X3_init
set_option maxRecDepth 20000 in
theorem ggX7_init_X1_init : GoodIn wsX7_init wsX1_init := goodIn_r _ [77, 78, 2, 3, 42, 79, 80, 81, 82, 117, 118, 119, 120, 121] (by decide +kernel) (by decide +kernel)
set_option maxRecDepth 20000 in
theorem gX7_init_X1_init : GoodIn wsX7_init (wsX1_init) := ggX7_init_X1_init
set_option maxRecDepth 20000 in
theorem ggX7_init_X2_init : GoodIn wsX7_init wsX2_init := goodIn_r _ [85, 86, 2, 3, 42, 87, 88, 89, 122, 123, 124] (by decide +kernel) (by decide +kernel)
set_option maxRecDepth 20000 in
theorem gX7_init_X2_init : GoodIn wsX7_init (wsX2_init) := ggX7_init_X2_init
theorem dX7_init_0 : decode cX7_init 0 = .ok (.aload_n 0, 1) := by decide +kernel
theorem dX7_init_1 : decode cX7_init 1 = .ok (.invokespecial 1, 3) := by decide +kernel
theorem dX7_init_4 : decode cX7_init 4 = .ok (.aload_n 0, 1) := by decide +kernel
theorem dX7_init_5 : decode cX7_init 5 = .ok (.new 7, 3) := by decide +kernel
theorem dX7_init_8 : decode cX7_init 8 = .ok (.dup, 1) := by decide +kernel
theorem dX7_init_9 : decode cX7_init 9 = .ok (.invokespecial 9, 3) := by decide +kernel
theorem dX7_init_12 : decode cX7_init 12 = .ok (.putfield 10, 3) := by decide +kernel
theorem dX7_init_15 : decode cX7_init 15 = .ok (.aload_n 0, 1) := by decide +kernel
theorem dX7_init_16 : decode cX7_init 16 = .ok (.getstatic 16, 3) := by decide +kernel
theorem dX7_init_19 : decode cX7_init 19 = .ok (.invokevirtual 20, 3) := by decide +kernel
theorem dX7_init_22 : decode cX7_init 22 = .ok (.checkcast 21, 3) := by decide +kernel
theorem dX7_init_25 : decode cX7_init 25 = .ok (.putfield 25, 3) := by decide +kernel
theorem dX7_init_28 : decode cX7_init 28 = .ok (.aload_n 0, 1) := by decide +kernel
theorem dX7_init_29 : decode cX7_init 29 = .ok (.new 28, 3) := by decide +kernel
theorem dX7_init_32 : decode cX7_init 32 = .ok (.dup, 1) := by decide +kernel
theorem dX7_init_33 : decode cX7_init 33 = .ok (.aload_n 0, 1) := by decide +kernel
theorem dX7_init_34 : decode cX7_init 34 = .ok (.getfield 10, 3) := by decide +kernel
theorem dX7_init_37 : decode cX7_init 37 = .ok (.invokespecial 30, 3) := by decide +kernel
theorem dX7_init_40 : decode cX7_init 40 = .ok (.putfield 33, 3) := by decide +kernel
theorem dX7_init_43 : decode cX7_init 43 = .ok (.aload_n 0, 1) := by decide +kernel
theorem dX7_init_44 : decode cX7_init 44 = .ok (.new 37, 3) := by decide +kernel
theorem dX7_init_47 : decode cX7_init 47 = .ok (.dup, 1) := by decide +kernel
theorem dX7_init_48 : decode cX7_init 48 = .ok (.aload_n 0, 1) := by decide +kernel
theorem dX7_init_49 : decode cX7_init 49 = .ok (.getfield 10, 3) := by decide +kernel
theorem dX7_init_52 : decode cX7_init 52 = .ok (.invokespecial 39, 3) := by decide +kernel
theorem dX7_init_55 : decode cX7_init 55 = .ok (.putfield 40, 3) := by decide +kernel
theorem dX7_init_58 : decode cX7_init 58 = .ok (.aload_n 0, 1) := by decide +kernel
theorem dX7_init_59 : decode cX7_init 59 = .ok (.new 44, 3) := by decide +kernel
theorem dX7_init_62 : decode cX7_init 62 = .ok (.dup, 1) := by decide +kernel
theorem dX7_init_63 : decode cX7_init 63 = .ok (.aload_n 0, 1) := by decide +kernel
theorem dX7_init_64 : decode cX7_init 64 = .ok (.getfield 10, 3) := by decide +kernel
theorem dX7_init_67 : decode cX7_init 67 = .ok (.aload_n 0, 1) := by decide +kernel
theorem dX7_init_68 : decode cX7_init 68 = .ok (.getfield 25, 3) := by decide +kernel
theorem dX7_init_71 : decode cX7_init 71 = .ok (.aload_n 0, 1) := by decide +kernel
theorem dX7_init_72 : decode cX7_init 72 = .ok (.getfield 40, 3) := by decide +kernel
theorem dX7_init_75 : decode cX7_init 75 = .ok (.invokespecial 46, 3) := by decide +kernel
theorem dX7_init_78 : decode cX7_init 78 = .ok (.putfield 49, 3) := by decide +kernel
theorem dX7_init_81 : decode cX7_init 81 = .ok (.new 53, 3) := by decide +kernel
theorem dX7_init_84 : decode cX7_init 84 = .ok (.dup, 1) := by decide +kernel
theorem dX7_init_85 : decode cX7_init 85 = .ok (.aload_n 0, 1) := by decide +kernel
theorem dX7_init_86 : decode cX7_init 86 = .ok (.getfield 10, 3) := by decide +kernel
theorem dX7_init_89 : decode cX7_init 89 = .ok (.aload_n 0, 1) := by decide +kernel
theorem dX7_init_90 : decode cX7_init 90 = .ok (.getfield 25, 3) := by decide +kernel
theorem dX7_init_93 : decode cX7_init 93 = .ok (.invokespecial 55, 3) := by decide +kernel
theorem dX7_init_96 : decode cX7_init 96 = .ok (.astore_n 1, 1) := by decide +kernel
theorem dX7_init_97 : decode cX7_init 97 = .ok (.aload_n 0, 1) := by decide +kernel
theorem dX7_init_98 : decode cX7_init 98 = .ok (.new 58, 3) := by decide +kernel
theorem dX7_init_101 : decode cX7_init 101 = .ok (.dup, 1) := by decide +kernel
theorem dX7_init_102 : decode cX7_init 102 = .ok (.aload_n 0, 1) := by decide +kernel
theorem dX7_init_103 : decode cX7_init 103 = .ok (.getfield 10, 3) := by decide +kernel
theorem dX7_init_106 : decode cX7_init 106 = .ok (.aload_n 1, 1) := by decide +kernel
theorem dX7_init_107 : decode cX7_init 107 = .ok (.invokespecial 60, 3) := by decide +kernel
theorem dX7_init_110 : decode cX7_init 110 = .ok (.putfield 63, 3) := by decide +kernel
theorem dX7_init_113 : decode cX7_init 113 = .ok (.aload_n 0, 1) := by decide +kernel
theorem dX7_init_114 : decode cX7_init 114 = .ok (.new 67, 3) := by decide +kernel
theorem dX7_init_117 : decode cX7_init 117 = .ok (.dup, 1) := by decide +kernel
theorem dX7_init_118 : decode cX7_init 118 = .ok (.aload_n 0, 1) := by decide +kernel
theorem dX7_init_119 : decode cX7_init 119 = .ok (.getfield 10, 3) := by decide +kernel
theorem dX7_init_122 : decode cX7_init 122 = .ok (.aload_n 1, 1) := by decide +kernel
theorem dX7_init_123 : decode cX7_init 123 = .ok (.invokespecial 69, 3) := by decide +kernel
theorem dX7_init_126 : decode cX7_init 126 = .ok (.putfield 70, 3) := by decide +kernel
theorem dX7_init_129 : decode cX7_init 129 = .ok (.return_, 1) := by decide +kernel
theorem dX7_clear_0 : decode cX7_clear 0 = .ok (.aload_n 0, 1) := by decide +kernel
theorem dX7_clear_1 : decode cX7_clear 1 = .ok (.getfield 10, 3) := by decide +kernel
theorem dX7_clear_4 : decode cX7_clear 4 = .ok (.getfield 74, 3) := by decide +kernel
theorem dX7_clear_7 : decode cX7_clear 7 = .ok (.istore_n 1, 1) := by decide +kernel
theorem dX7_clear_8 : decode cX7_clear 8 = .ok (.aload_n 0, 1) := by decide +kernel
theorem dX7_clear_9 : decode cX7_clear 9 = .ok (.getfield 10, 3) := by decide +kernel
theorem dX7_clear_12 : decode cX7_clear 12 = .ok (.iconst 0, 1) := by decide +kernel
theorem dX7_clear_13 : decode cX7_clear 13 = .ok (.putfield 74, 3) := by decide +kernel
theorem dX7_clear_16 : decode cX7_clear 16 = .ok (.getstatic 16, 3) := by decide +kernel
theorem dX7_clear_19 : decode cX7_clear 19 = .ok (.iconst 0, 1) := by decide +kernel
theorem dX7_clear_20 : decode cX7_clear 20 = .ok (.aload_n 0, 1) := by decide +kernel
theorem dX7_clear_21 : decode cX7_clear 21 = .ok (.getfield 25, 3) := by decide +kernel
theorem dX7_clear_24 : decode cX7_clear 24 = .ok (.iconst 0, 1) := by decide +kernel
theorem dX7_clear_25 : decode cX7_clear 25 = .ok (.getstatic 16, 3) := by decide +kernel
theorem dX7_clear_28 : decode cX7_clear 28 = .ok (.arraylength, 1) := by decide +kernel
theorem dX7_clear_29 : decode cX7_clear 29 = .ok (.invokestatic 78, 3) := by decide +kernel
theorem dX7_clear_32 : decode cX7_clear 32 = .ok (.iload_n 1, 1) := by decide +kernel
theorem dX7_clear_33 : decode cX7_clear 33 = .ok (.ireturn, 1) := by decide +kernel
set_option maxRecDepth 20000 in
theorem ggX7_note_X7_canSound : GoodIn wsX7_note wsX7_canSound := goodIn_r _ [6, 7, 8, 9, 5, 10] (by decide +kernel) (by decide +kernel)
set_option maxRecDepth 20000 in
theorem gX7_note_X7_canSound : GoodIn wsX7_note (va_wsS RX7 84 yX7_canSound wsX7_canSound) := goodIn_app (goodIn_of _ (by decide +kernel)) ggX7_note_X7_canSound
set_option maxRecDepth 20000 in
theorem ggX7_note_X6_add : GoodIn wsX7_note wsX6_add := goodIn_r _ [15, 16, 17, 18, 19, 20, 21, 14, 22, 23, 24, 25, 26, 27, 28, 29, 30, 31, 32, 33, 34, 42, 43, 44, 45, 46, 47, 48] (by decide +kernel) (by decide +kernel)
set_option maxRecDepth 20000 in
theorem gX7_note_X6_add : GoodIn wsX7_note (wsV RX7 88 RX6 yX6_add wsX6_add) := goodIn_app (goodIn_of _ (by decide +kernel)) ggX7_note_X6_add
theorem dX7_note_0 : decode cX7_note 0 = .ok (.iload_n 1, 1) := by decide +kernel
theorem dX7_note_1 : decode cX7_note 1 = .ok (.iload_n 2, 1) := by decide +kernel
theorem dX7_note_2 : decode cX7_note 2 = .ok (.iload_n 3, 1) := by decide +kernel
theorem dX7_note_3 : decode cX7_note 3 = .ok (.invokestatic 84, 3) := by decide +kernel
theorem dX7_note_6 : decode cX7_note 6 = .ok (.ifCond .ne 6, 3) := by decide +kernel
theorem dX7_note_9 : decode cX7_note 9 = .ok (.bipush (-2), 2) := by decide +kernel
theorem dX7_note_11 : decode cX7_note 11 = .ok (.ireturn, 1) := by decide +kernel
theorem dX7_note_12 : decode cX7_note 12 = .ok (.aload_n 0, 1) := by decide +kernel
theorem dX7_note_13 : decode cX7_note 13 = .ok (.getfield 10, 3) := by decide +kernel
theorem dX7_note_16 : decode cX7_note 16 = .ok (.getfield 74, 3) := by decide +kernel
theorem dX7_note_19 : decode cX7_note 19 = .ok (.bipush 60, 2) := by decide +kernel
theorem dX7_note_21 : decode cX7_note 21 = .ok (.if_icmp .lt 8, 3) := by decide +kernel
theorem dX7_note_24 : decode cX7_note 24 = .ok (.bipush (-4), 2) := by decide +kernel
theorem dX7_note_26 : decode cX7_note 26 = .ok (.goto 13, 3) := by decide +kernel
theorem dX7_note_29 : decode cX7_note 29 = .ok (.aload_n 0, 1) := by decide +kernel
theorem dX7_note_30 : decode cX7_note 30 = .ok (.getfield 10, 3) := by decide +kernel
theorem dX7_note_33 : decode cX7_note 33 = .ok (.iload_n 1, 1) := by decide +kernel
theorem dX7_note_34 : decode cX7_note 34 = .ok (.iload_n 2, 1) := by decide +kernel
theorem dX7_note_35 : decode cX7_note 35 = .ok (.iload_n 3, 1) := by decide +kernel
theorem dX7_note_36 : decode cX7_note 36 = .ok (.invokevirtual 88, 3) := by decide +kernel
theorem dX7_note_39 : decode cX7_note 39 = .ok (.ireturn, 1) := by decide +kernel
set_option maxRecDepth 20000 in
theorem ggX7_move_X6_has : GoodIn wsX7_move wsX6_has := goodIn_r _ [6, 7, 8, 9, 10, 40, 41, 42, 43, 44, 45, 46] (by decide +kernel) (by decide +kernel)
set_option maxRecDepth 20000 in
theorem gX7_move_X6_has : GoodIn wsX7_move (wsV RX7 92 RX6 yX6_has wsX6_has) := goodIn_app (goodIn_of _ (by decide +kernel)) ggX7_move_X6_has
set_option maxRecDepth 20000 in
theorem ggX7_move_X7_canSound : GoodIn wsX7_move wsX7_canSound := goodIn_r _ [13, 14, 15, 8, 9, 10] (by decide +kernel) (by decide +kernel)
set_option maxRecDepth 20000 in
theorem gX7_move_X7_canSound : GoodIn wsX7_move (va_wsS RX7 84 yX7_canSound wsX7_canSound) := goodIn_app (goodIn_of _ (by decide +kernel)) ggX7_move_X7_canSound
set_option maxRecDepth 20000 in
theorem ggX7_move_X6_change : GoodIn wsX7_move wsX6_change := goodIn_r _ [19, 20, 21, 22, 23, 24, 25, 5, 26, 7, 27, 28, 29, 30, 31, 32, 40, 41, 42, 43, 44, 45, 46] (by decide +kernel) (by decide +kernel)
set_option maxRecDepth 20000 in
theorem gX7_move_X6_change : GoodIn wsX7_move (wsV RX7 96 RX6 yX6_change wsX6_change) := goodIn_app (goodIn_of _ (by decide +kernel)) ggX7_move_X6_change
theorem dX7_move_0 : decode cX7_move 0 = .ok (.aload_n 0, 1) := by decide +kernel
theorem dX7_move_1 : decode cX7_move 1 = .ok (.getfield 10, 3) := by decide +kernel
theorem dX7_move_4 : decode cX7_move 4 = .ok (.iload_n 1, 1) := by decide +kernel
theorem dX7_move_5 : decode cX7_move 5 = .ok (.invokevirtual 92, 3) := by decide +kernel
theorem dX7_move_8 : decode cX7_move 8 = .ok (.ifCond .eq 13, 3) := by decide +kernel
theorem dX7_move_11 : decode cX7_move 11 = .ok (.iload_n 2, 1) := by decide +kernel
theorem dX7_move_12 : decode cX7_move 12 = .ok (.iload_n 3, 1) := by decide +kernel
theorem dX7_move_13 : decode cX7_move 13 = .ok (.iload 4, 2) := by decide +kernel
theorem dX7_move_15 : decode cX7_move 15 = .ok (.invokestatic 84, 3) := by decide +kernel
theorem dX7_move_18 : decode cX7_move 18 = .ok (.ifCond .ne 6, 3) := by decide +kernel
theorem dX7_move_21 : decode cX7_move 21 = .ok (.bipush (-2), 2) := by decide +kernel
theorem dX7_move_23 : decode cX7_move 23 = .ok (.ireturn, 1) := by decide +kernel
theorem dX7_move_24 : decode cX7_move 24 = .ok (.aload_n 0, 1) := by decide +kernel
end
section
theorem dX7_move_25 : decode cX7_move 25 = .ok (.getfield 10, 3) := by decide +kernel
theorem dX7_move_28 : decode cX7_move 28 = .ok (.iload_n 1, 1) := by decide +kernel
theorem dX7_move_29 : decode cX7_move 29 = .ok (.iload_n 2, 1) := by decide +kernel
theorem dX7_move_30 : decode cX7_move 30 = .ok (.iload_n 3, 1) := by decide +kernel
theorem dX7_move_31 : decode cX7_move 31 = .ok (.iload 4, 2) := by decide +kernel
theorem dX7_move_33 : decode cX7_move 33 = .ok (.invokevirtual 96, 3) := by decide +kernel
theorem dX7_move_36 : decode cX7_move 36 = .ok (.iconst 1, 1) := by decide +kernel
theorem dX7_move_37 : decode cX7_move 37 = .ok (.ireturn, 1) := by decide +kernel
set_option maxRecDepth 20000 in
theorem ggX7_weigh_X7_within : GoodIn wsX7_weigh wsX7_within := goodIn_r _ [5] (by decide +kernel) (by decide +kernel)
set_option maxRecDepth 20000 in
theorem gX7_weigh_X7_within : GoodIn wsX7_weigh (va_wsS RX7 100 yX7_within wsX7_within) := goodIn_app (goodIn_of _ (by decide +kernel)) ggX7_weigh_X7_within
theorem dX7_weigh_0 : decode cX7_weigh 0 = .ok (.iload_n 1, 1) := by decide +kernel
theorem dX7_weigh_1 : decode cX7_weigh 1 = .ok (.iconst 0, 1) := by decide +kernel
theorem dX7_weigh_2 : decode cX7_weigh 2 = .ok (.iconst 3, 1) := by decide +kernel
theorem dX7_weigh_3 : decode cX7_weigh 3 = .ok (.invokestatic 100, 3) := by decide +kernel
theorem dX7_weigh_6 : decode cX7_weigh 6 = .ok (.ifCond .eq 14, 3) := by decide +kernel
theorem dX7_weigh_9 : decode cX7_weigh 9 = .ok (.iload_n 2, 1) := by decide +kernel
theorem dX7_weigh_10 : decode cX7_weigh 10 = .ok (.iconst 0, 1) := by decide +kernel
theorem dX7_weigh_11 : decode cX7_weigh 11 = .ok (.sipush 1000, 3) := by decide +kernel
theorem dX7_weigh_14 : decode cX7_weigh 14 = .ok (.invokestatic 100, 3) := by decide +kernel
theorem dX7_weigh_17 : decode cX7_weigh 17 = .ok (.ifCond .ne 6, 3) := by decide +kernel
theorem dX7_weigh_20 : decode cX7_weigh 20 = .ok (.bipush (-2), 2) := by decide +kernel
theorem dX7_weigh_22 : decode cX7_weigh 22 = .ok (.ireturn, 1) := by decide +kernel
theorem dX7_weigh_23 : decode cX7_weigh 23 = .ok (.aload_n 0, 1) := by decide +kernel
theorem dX7_weigh_24 : decode cX7_weigh 24 = .ok (.getfield 25, 3) := by decide +kernel
theorem dX7_weigh_27 : decode cX7_weigh 27 = .ok (.iload_n 1, 1) := by decide +kernel
theorem dX7_weigh_28 : decode cX7_weigh 28 = .ok (.iaload, 1) := by decide +kernel
theorem dX7_weigh_29 : decode cX7_weigh 29 = .ok (.istore_n 3, 1) := by decide +kernel
theorem dX7_weigh_30 : decode cX7_weigh 30 = .ok (.aload_n 0, 1) := by decide +kernel
theorem dX7_weigh_31 : decode cX7_weigh 31 = .ok (.getfield 25, 3) := by decide +kernel
theorem dX7_weigh_34 : decode cX7_weigh 34 = .ok (.iload_n 1, 1) := by decide +kernel
theorem dX7_weigh_35 : decode cX7_weigh 35 = .ok (.iload_n 2, 1) := by decide +kernel
theorem dX7_weigh_36 : decode cX7_weigh 36 = .ok (.iastore, 1) := by decide +kernel
theorem dX7_weigh_37 : decode cX7_weigh 37 = .ok (.iload_n 3, 1) := by decide +kernel
theorem dX7_weigh_38 : decode cX7_weigh 38 = .ok (.ireturn, 1) := by decide +kernel
set_option maxRecDepth 20000 in
theorem ggX7_put_X6_has : GoodIn wsX7_put wsX6_has := goodIn_r _ [7, 8, 9, 10, 11, 20, 21, 22, 23, 24, 25, 26] (by decide +kernel) (by decide +kernel)
set_option maxRecDepth 20000 in
theorem gX7_put_X6_has : GoodIn wsX7_put (wsV RX7 92 RX6 yX6_has wsX6_has) := goodIn_app (goodIn_of _ (by decide +kernel)) ggX7_put_X6_has
set_option maxRecDepth 20000 in
theorem ggX7_put_X7_within : GoodIn wsX7_put wsX7_within := goodIn_r _ [11] (by decide +kernel) (by decide +kernel)
set_option maxRecDepth 20000 in
theorem gX7_put_X7_within : GoodIn wsX7_put (va_wsS RX7 100 yX7_within wsX7_within) := goodIn_app (goodIn_of _ (by decide +kernel)) ggX7_put_X7_within
theorem dX7_put_0 : decode cX7_put 0 = .ok (.aload_n 0, 1) := by decide +kernel
theorem dX7_put_1 : decode cX7_put 1 = .ok (.getfield 10, 3) := by decide +kernel
theorem dX7_put_4 : decode cX7_put 4 = .ok (.iload_n 1, 1) := by decide +kernel
theorem dX7_put_5 : decode cX7_put 5 = .ok (.invokevirtual 92, 3) := by decide +kernel
theorem dX7_put_8 : decode cX7_put 8 = .ok (.ifCond .eq 12, 3) := by decide +kernel
theorem dX7_put_11 : decode cX7_put 11 = .ok (.iload_n 2, 1) := by decide +kernel
theorem dX7_put_12 : decode cX7_put 12 = .ok (.iconst (-1), 1) := by decide +kernel
theorem dX7_put_13 : decode cX7_put 13 = .ok (.iconst 3, 1) := by decide +kernel
theorem dX7_put_14 : decode cX7_put 14 = .ok (.invokestatic 100, 3) := by decide +kernel
theorem dX7_put_17 : decode cX7_put 17 = .ok (.ifCond .ne 6, 3) := by decide +kernel
theorem dX7_put_20 : decode cX7_put 20 = .ok (.bipush (-2), 2) := by decide +kernel
theorem dX7_put_22 : decode cX7_put 22 = .ok (.ireturn, 1) := by decide +kernel
theorem dX7_put_23 : decode cX7_put 23 = .ok (.aload_n 0, 1) := by decide +kernel
theorem dX7_put_24 : decode cX7_put 24 = .ok (.getfield 10, 3) := by decide +kernel
theorem dX7_put_27 : decode cX7_put 27 = .ok (.getfield 103, 3) := by decide +kernel
theorem dX7_put_30 : decode cX7_put 30 = .ok (.iload_n 1, 1) := by decide +kernel
theorem dX7_put_31 : decode cX7_put 31 = .ok (.iaload, 1) := by decide +kernel
theorem dX7_put_32 : decode cX7_put 32 = .ok (.istore_n 3, 1) := by decide +kernel
theorem dX7_put_33 : decode cX7_put 33 = .ok (.aload_n 0, 1) := by decide +kernel
theorem dX7_put_34 : decode cX7_put 34 = .ok (.getfield 10, 3) := by decide +kernel
theorem dX7_put_37 : decode cX7_put 37 = .ok (.getfield 103, 3) := by decide +kernel
theorem dX7_put_40 : decode cX7_put 40 = .ok (.iload_n 1, 1) := by decide +kernel
theorem dX7_put_41 : decode cX7_put 41 = .ok (.iload_n 2, 1) := by decide +kernel
theorem dX7_put_42 : decode cX7_put 42 = .ok (.iastore, 1) := by decide +kernel
theorem dX7_put_43 : decode cX7_put 43 = .ok (.iload_n 3, 1) := by decide +kernel
theorem dX7_put_44 : decode cX7_put 44 = .ok (.ireturn, 1) := by decide +kernel
set_option maxRecDepth 20000 in
theorem ggX7_find_X7_least : GoodIn wsX7_find wsX7_least := goodIn_r _ [6, 7, 8, 1, 9, 10, 5, 11, 12, 13, 14, 15, 16, 17, 18, 19, 20, 21, 22, 23, 24, 25, 26, 27, 28, 29, 30, 31, 32, 33, 34, 35, 36, 37, 38, 39, 40, 41, 42, 43, 44, 45, 46, 47, 48, 49, 50, 51, 52, 53, 54, 55, 56, 57, 58, 59, 60, 61, 62, 63, 64, 65, 66, 67, 68, 69, 70, 71, 72, 73, 74, 75, 76, 77, 78, 79, 80, 81, 82, 92, 93, 94, 95, 96, 97, 98, 99, 100, 101, 102, 103, 104, 105, 106, 107, 108, 109, 110, 111, 112, 113] (by decide +kernel) (by decide +kernel)
set_option maxRecDepth 20000 in
theorem gX7_find_X7_least : GoodIn wsX7_find (wsV RX7 106 RX7 yX7_least wsX7_least) := goodIn_app (goodIn_of _ (by decide +kernel)) ggX7_find_X7_least
set_option maxRecDepth 20000 in
theorem ggX7_find_X1_giveFound : GoodIn wsX7_find wsX1_giveFound := goodIn_r _ [86, 18, 24, 25, 60, 61, 87, 43, 44, 45, 46, 47, 48, 49, 50, 38, 51, 88, 89, 90, 15, 91, 17, 52, 53, 54, 55, 26, 56, 57, 58, 59, 62, 63, 64, 65, 66, 67, 68, 69, 70, 71, 72, 30, 73, 74, 75, 76, 77, 78, 79, 80, 81, 82, 23, 106, 107, 108, 109, 110, 99, 100, 101, 102, 103, 104, 105, 111, 112, 113] (by decide +kernel) (by decide +kernel)
set_option maxRecDepth 20000 in
theorem gX7_find_X1_giveFound : GoodIn wsX7_find (wsV RX7 110 RX1 yX1_giveFound wsX1_giveFound) := goodIn_app (goodIn_of _ (by decide +kernel)) ggX7_find_X1_giveFound
theorem dX7_find_0 : decode cX7_find 0 = .ok (.aload_n 0, 1) := by decide +kernel
theorem dX7_find_1 : decode cX7_find 1 = .ok (.iload_n 1, 1) := by decide +kernel
theorem dX7_find_2 : decode cX7_find 2 = .ok (.invokevirtual 106, 3) := by decide +kernel
theorem dX7_find_5 : decode cX7_find 5 = .ok (.istore_n 2, 1) := by decide +kernel
theorem dX7_find_6 : decode cX7_find 6 = .ok (.iload_n 2, 1) := by decide +kernel
theorem dX7_find_7 : decode cX7_find 7 = .ok (.ifCond .lt 10, 3) := by decide +kernel
theorem dX7_find_10 : decode cX7_find 10 = .ok (.aload_n 0, 1) := by decide +kernel
theorem dX7_find_11 : decode cX7_find 11 = .ok (.getfield 63, 3) := by decide +kernel
theorem dX7_find_14 : decode cX7_find 14 = .ok (.invokevirtual 110, 3) := by decide +kernel
theorem dX7_find_17 : decode cX7_find 17 = .ok (.iload_n 2, 1) := by decide +kernel
theorem dX7_find_18 : decode cX7_find 18 = .ok (.ireturn, 1) := by decide +kernel
set_option maxRecDepth 20000 in
theorem ggX7_least_X7_within : GoodIn wsX7_least wsX7_within := goodIn_r _ [7] (by decide +kernel) (by decide +kernel)
set_option maxRecDepth 20000 in
theorem gX7_least_X7_within : GoodIn wsX7_least (va_wsS RX7 100 yX7_within wsX7_within) := goodIn_app (goodIn_of _ (by decide +kernel)) ggX7_least_X7_within
set_option maxRecDepth 20000 in
theorem ggX7_least_X1_search : GoodIn wsX7_least wsX1_search := goodIn_r _ [12, 13, 14, 15, 16, 17, 11, 18, 19, 20, 21, 22, 23, 24, 25, 26, 27, 28, 29, 30, 31, 32, 33, 34, 35, 36, 37, 38, 39, 40, 41, 42, 43, 44, 45, 46, 47, 48, 49, 50, 51, 52, 53, 54, 55, 56, 57, 58, 59, 60, 61, 62, 63, 64, 65, 66, 67, 68, 69, 70, 71, 72, 73, 74, 75, 76, 77, 78, 93, 94, 95, 96, 97, 86, 87, 88, 89, 90, 91, 92, 98, 99, 100] (by decide +kernel) (by decide +kernel)
set_option maxRecDepth 20000 in
theorem gX7_least_X1_search : GoodIn wsX7_least (wsV RX7 113 RX1 yX1_search wsX1_search) := goodIn_app (goodIn_of _ (by decide +kernel)) ggX7_least_X1_search
theorem dX7_least_0 : decode cX7_least 0 = .ok (.iload_n 1, 1) := by decide +kernel
theorem dX7_least_1 : decode cX7_least 1 = .ok (.iconst 1, 1) := by decide +kernel
theorem dX7_least_2 : decode cX7_least 2 = .ok (.iconst 4, 1) := by decide +kernel
theorem dX7_least_3 : decode cX7_least 3 = .ok (.invokestatic 100, 3) := by decide +kernel
theorem dX7_least_6 : decode cX7_least 6 = .ok (.ifCond .ne 6, 3) := by decide +kernel
theorem dX7_least_9 : decode cX7_least 9 = .ok (.bipush (-2), 2) := by decide +kernel
theorem dX7_least_11 : decode cX7_least 11 = .ok (.ireturn, 1) := by decide +kernel
theorem dX7_least_12 : decode cX7_least 12 = .ok (.aload_n 0, 1) := by decide +kernel
theorem dX7_least_13 : decode cX7_least 13 = .ok (.getfield 10, 3) := by decide +kernel
theorem dX7_least_16 : decode cX7_least 16 = .ok (.getfield 74, 3) := by decide +kernel
theorem dX7_least_19 : decode cX7_least 19 = .ok (.bipush 14, 2) := by decide +kernel
theorem dX7_least_21 : decode cX7_least 21 = .ok (.if_icmp .le 8, 3) := by decide +kernel
theorem dX7_least_24 : decode cX7_least 24 = .ok (.bipush (-3), 2) := by decide +kernel
theorem dX7_least_26 : decode cX7_least 26 = .ok (.goto 11, 3) := by decide +kernel
theorem dX7_least_29 : decode cX7_least 29 = .ok (.aload_n 0, 1) := by decide +kernel
theorem dX7_least_30 : decode cX7_least 30 = .ok (.getfield 63, 3) := by decide +kernel
theorem dX7_least_33 : decode cX7_least 33 = .ok (.iload_n 1, 1) := by decide +kernel
theorem dX7_least_34 : decode cX7_least 34 = .ok (.invokevirtual 113, 3) := by decide +kernel
theorem dX7_least_37 : decode cX7_least 37 = .ok (.ireturn, 1) := by decide +kernel
set_option maxRecDepth 20000 in
theorem ggX7_along_X7_within : GoodIn wsX7_along wsX7_within := goodIn_r _ [5] (by decide +kernel) (by decide +kernel)
set_option maxRecDepth 20000 in
theorem gX7_along_X7_within : GoodIn wsX7_along (va_wsS RX7 100 yX7_within wsX7_within) := goodIn_app (goodIn_of _ (by decide +kernel)) ggX7_along_X7_within
set_option maxRecDepth 20000 in
theorem ggX7_along_X2_go : GoodIn wsX7_along wsX2_go := goodIn_r _ [10, 11, 12, 13, 14, 15, 16, 17, 18, 19, 20, 21, 22, 23, 24, 25, 26, 27, 28, 29, 30, 31, 32, 33, 34, 9, 35, 36, 37, 38, 39, 40, 41, 42, 43, 44, 45, 46, 47, 48, 49, 50, 51, 52, 60, 61, 62, 63, 64, 65, 66, 67, 68, 69, 70, 71, 72] (by decide +kernel) (by decide +kernel)
set_option maxRecDepth 20000 in
theorem gX7_along_X2_go : GoodIn wsX7_along (wsV RX7 116 RX2 yX2_go wsX2_go) := goodIn_app (goodIn_of _ (by decide +kernel)) ggX7_along_X2_go
theorem dX7_along_0 : decode cX7_along 0 = .ok (.iload_n 1, 1) := by decide +kernel
theorem dX7_along_1 : decode cX7_along 1 = .ok (.iconst 1, 1) := by decide +kernel
theorem dX7_along_2 : decode cX7_along 2 = .ok (.iconst 4, 1) := by decide +kernel
theorem dX7_along_3 : decode cX7_along 3 = .ok (.invokestatic 100, 3) := by decide +kernel
theorem dX7_along_6 : decode cX7_along 6 = .ok (.ifCond .ne 6, 3) := by decide +kernel
theorem dX7_along_9 : decode cX7_along 9 = .ok (.bipush (-2), 2) := by decide +kernel
theorem dX7_along_11 : decode cX7_along 11 = .ok (.ireturn, 1) := by decide +kernel
theorem dX7_along_12 : decode cX7_along 12 = .ok (.aload_n 0, 1) := by decide +kernel
theorem dX7_along_13 : decode cX7_along 13 = .ok (.getfield 70, 3) := by decide +kernel
theorem dX7_along_16 : decode cX7_along 16 = .ok (.iload_n 1, 1) := by decide +kernel
theorem dX7_along_17 : decode cX7_along 17 = .ok (.invokevirtual 116, 3) := by decide +kernel
theorem dX7_along_20 : decode cX7_along 20 = .ok (.ifCond .eq 7, 3) := by decide +kernel
theorem dX7_along_23 : decode cX7_along 23 = .ok (.iconst 1, 1) := by decide +kernel
theorem dX7_along_24 : decode cX7_along 24 = .ok (.goto 4, 3) := by decide +kernel
theorem dX7_along_27 : decode cX7_along 27 = .ok (.iconst (-1), 1) := by decide +kernel
theorem dX7_along_28 : decode cX7_along 28 = .ok (.ireturn, 1) := by decide +kernel
set_option maxRecDepth 20000 in
theorem ggX7_cost_X7_within : GoodIn wsX7_cost wsX7_within := goodIn_r _ [6] (by decide +kernel) (by decide +kernel)
set_option maxRecDepth 20000 in
theorem gX7_cost_X7_within : GoodIn wsX7_cost (va_wsS RX7 100 yX7_within wsX7_within) := goodIn_app (goodIn_of _ (by decide +kernel)) ggX7_cost_X7_within
set_option maxRecDepth 20000 in
theorem ggX7_cost_X6_isWhole : GoodIn wsX7_cost wsX6_isWhole := goodIn_r _ [11, 12, 13, 14, 15, 16, 10, 17, 18, 19, 20, 21, 22, 23, 24, 25, 105, 106, 107, 108, 109, 110, 111] (by decide +kernel) (by decide +kernel)
set_option maxRecDepth 20000 in
theorem gX7_cost_X6_isWhole : GoodIn wsX7_cost (wsV RX7 119 RX6 yX6_isWhole wsX6_isWhole) := goodIn_app (goodIn_of _ (by decide +kernel)) ggX7_cost_X6_isWhole
set_option maxRecDepth 20000 in
theorem ggX7_cost_X0_part : GoodIn wsX7_cost wsX0_part := goodIn_r _ [30, 31, 32, 33, 29, 34, 35, 36, 37, 38, 39, 40, 41, 42, 43, 15, 16, 10, 17, 13, 18, 12, 19, 44, 45, 46, 47, 48, 49, 50, 51, 52, 53, 54, 55, 56, 57, 58, 59, 60, 61, 62, 63, 64, 65, 66, 67, 68, 69, 70, 21, 22, 23, 24, 25, 71, 72, 73, 74, 75, 76, 77, 78, 79, 80, 81, 82, 83, 84, 85, 86, 87, 88, 89, 90, 91, 92, 93, 94, 95, 96, 97, 112, 113, 114, 105, 106, 107, 108, 109, 110, 111, 115, 116, 117] (by decide +kernel) (by decide +kernel)
set_option maxRecDepth 20000 in
theorem gX7_cost_X0_part : GoodIn wsX7_cost (wsV RX7 123 RX0 yX0_part wsX0_part) := goodIn_app (goodIn_of _ (by decide +kernel)) ggX7_cost_X0_part
theorem dX7_cost_0 : decode cX7_cost 0 = .ok (.iload_n 1, 1) := by decide +kernel
theorem dX7_cost_1 : decode cX7_cost 1 = .ok (.iconst 0, 1) := by decide +kernel
theorem dX7_cost_2 : decode cX7_cost 2 = .ok (.iconst 4, 1) := by decide +kernel
theorem dX7_cost_3 : decode cX7_cost 3 = .ok (.invokestatic 100, 3) := by decide +kernel
theorem dX7_cost_6 : decode cX7_cost 6 = .ok (.ifCond .ne 6, 3) := by decide +kernel
theorem dX7_cost_9 : decode cX7_cost 9 = .ok (.bipush (-2), 2) := by decide +kernel
theorem dX7_cost_11 : decode cX7_cost 11 = .ok (.ireturn, 1) := by decide +kernel
theorem dX7_cost_12 : decode cX7_cost 12 = .ok (.aload_n 0, 1) := by decide +kernel
theorem dX7_cost_13 : decode cX7_cost 13 = .ok (.getfield 10, 3) := by decide +kernel
theorem dX7_cost_16 : decode cX7_cost 16 = .ok (.invokevirtual 119, 3) := by decide +kernel
theorem dX7_cost_19 : decode cX7_cost 19 = .ok (.ifCond .eq 14, 3) := by decide +kernel
theorem dX7_cost_22 : decode cX7_cost 22 = .ok (.aload_n 0, 1) := by decide +kernel
theorem dX7_cost_23 : decode cX7_cost 23 = .ok (.getfield 49, 3) := by decide +kernel
theorem dX7_cost_26 : decode cX7_cost 26 = .ok (.iload_n 1, 1) := by decide +kernel
theorem dX7_cost_27 : decode cX7_cost 27 = .ok (.invokevirtual 123, 3) := by decide +kernel
theorem dX7_cost_30 : decode cX7_cost 30 = .ok (.goto 5, 3) := by decide +kernel
theorem dX7_cost_33 : decode cX7_cost 33 = .ok (.bipush (-3), 2) := by decide +kernel
theorem dX7_cost_35 : decode cX7_cost 35 = .ok (.ireturn, 1) := by decide +kernel
set_option maxRecDepth 20000 in
theorem ggX7_of_X6_has : GoodIn wsX7_of wsX6_has := goodIn_r _ [11, 12, 13, 14, 15, 40, 41, 42, 43, 44, 45, 46] (by decide +kernel) (by decide +kernel)
set_option maxRecDepth 20000 in
theorem gX7_of_X6_has : GoodIn wsX7_of (wsV RX7 92 RX6 yX6_has wsX6_has) := goodIn_app (goodIn_of _ (by decide +kernel)) ggX7_of_X6_has
set_option maxRecDepth 20000 in
theorem ggX7_of_X6_following : GoodIn wsX7_of wsX6_following := goodIn_r _ [19, 20, 21, 12, 22, 40, 41, 42, 43, 44, 45, 46] (by decide +kernel) (by decide +kernel)
set_option maxRecDepth 20000 in
theorem gX7_of_X6_following : GoodIn wsX7_of (wsV RX7 138 RX6 yX6_following wsX6_following) := goodIn_app (goodIn_of _ (by decide +kernel)) ggX7_of_X6_following
set_option maxRecDepth 20000 in
theorem ggX7_of_X6_clashes : GoodIn wsX7_of wsX6_clashes := goodIn_r _ [26, 12, 20, 27, 28, 29, 10, 30, 31, 32, 40, 41, 42, 43, 44, 45, 46] (by decide +kernel) (by decide +kernel)
set_option maxRecDepth 20000 in
theorem gX7_of_X6_clashes : GoodIn wsX7_of (wsV RX7 141 RX6 yX6_clashes wsX6_clashes) := goodIn_app (goodIn_of _ (by decide +kernel)) ggX7_of_X6_clashes
theorem dX7_of_0 : decode cX7_of 0 = .ok (.aload_n 0, 1) := by decide +kernel
theorem dX7_of_1 : decode cX7_of 1 = .ok (.getfield 10, 3) := by decide +kernel
theorem dX7_of_4 : decode cX7_of 4 = .ok (.iload_n 1, 1) := by decide +kernel
theorem dX7_of_5 : decode cX7_of 5 = .ok (.invokevirtual 92, 3) := by decide +kernel
theorem dX7_of_8 : decode cX7_of 8 = .ok (.ifCond .ne 6, 3) := by decide +kernel
theorem dX7_of_11 : decode cX7_of 11 = .ok (.bipush (-2), 2) := by decide +kernel
theorem dX7_of_13 : decode cX7_of 13 = .ok (.ireturn, 1) := by decide +kernel
theorem dX7_of_14 : decode cX7_of 14 = .ok (.iload_n 2, 1) := by decide +kernel
theorem dX7_of_15 : decode cX7_of 15 = .ok (.tableswitch 109 0 6 #[41, 51, 61, 71, 81, 91, 100], 41) := by decide +kernel
theorem dX7_of_56 : decode cX7_of 56 = .ok (.aload_n 0, 1) := by decide +kernel
theorem dX7_of_57 : decode cX7_of 57 = .ok (.getfield 10, 3) := by decide +kernel
theorem dX7_of_60 : decode cX7_of 60 = .ok (.getfield 126, 3) := by decide +kernel
theorem dX7_of_63 : decode cX7_of 63 = .ok (.iload_n 1, 1) := by decide +kernel
theorem dX7_of_64 : decode cX7_of 64 = .ok (.iaload, 1) := by decide +kernel
theorem dX7_of_65 : decode cX7_of 65 = .ok (.ireturn, 1) := by decide +kernel
theorem dX7_of_66 : decode cX7_of 66 = .ok (.aload_n 0, 1) := by decide +kernel
theorem dX7_of_67 : decode cX7_of 67 = .ok (.getfield 10, 3) := by decide +kernel
theorem dX7_of_70 : decode cX7_of 70 = .ok (.getfield 129, 3) := by decide +kernel
theorem dX7_of_73 : decode cX7_of 73 = .ok (.iload_n 1, 1) := by decide +kernel
theorem dX7_of_74 : decode cX7_of 74 = .ok (.iaload, 1) := by decide +kernel
theorem dX7_of_75 : decode cX7_of 75 = .ok (.ireturn, 1) := by decide +kernel
theorem dX7_of_76 : decode cX7_of 76 = .ok (.aload_n 0, 1) := by decide +kernel
theorem dX7_of_77 : decode cX7_of 77 = .ok (.getfield 10, 3) := by decide +kernel
theorem dX7_of_80 : decode cX7_of 80 = .ok (.getfield 132, 3) := by decide +kernel
theorem dX7_of_83 : decode cX7_of 83 = .ok (.iload_n 1, 1) := by decide +kernel
theorem dX7_of_84 : decode cX7_of 84 = .ok (.iaload, 1) := by decide +kernel
theorem dX7_of_85 : decode cX7_of 85 = .ok (.ireturn, 1) := by decide +kernel
theorem dX7_of_86 : decode cX7_of 86 = .ok (.aload_n 0, 1) := by decide +kernel
theorem dX7_of_87 : decode cX7_of 87 = .ok (.getfield 10, 3) := by decide +kernel
theorem dX7_of_90 : decode cX7_of 90 = .ok (.getfield 103, 3) := by decide +kernel
theorem dX7_of_93 : decode cX7_of 93 = .ok (.iload_n 1, 1) := by decide +kernel
theorem dX7_of_94 : decode cX7_of 94 = .ok (.iaload, 1) := by decide +kernel
theorem dX7_of_95 : decode cX7_of 95 = .ok (.ireturn, 1) := by decide +kernel
theorem dX7_of_96 : decode cX7_of 96 = .ok (.aload_n 0, 1) := by decide +kernel
theorem dX7_of_97 : decode cX7_of 97 = .ok (.getfield 10, 3) := by decide +kernel
theorem dX7_of_100 : decode cX7_of 100 = .ok (.getfield 135, 3) := by decide +kernel
theorem dX7_of_103 : decode cX7_of 103 = .ok (.iload_n 1, 1) := by decide +kernel
theorem dX7_of_104 : decode cX7_of 104 = .ok (.iaload, 1) := by decide +kernel
theorem dX7_of_105 : decode cX7_of 105 = .ok (.ireturn, 1) := by decide +kernel
theorem dX7_of_106 : decode cX7_of 106 = .ok (.aload_n 0, 1) := by decide +kernel
theorem dX7_of_107 : decode cX7_of 107 = .ok (.getfield 10, 3) := by decide +kernel
theorem dX7_of_110 : decode cX7_of 110 = .ok (.iload_n 1, 1) := by decide +kernel
theorem dX7_of_111 : decode cX7_of 111 = .ok (.invokevirtual 138, 3) := by decide +kernel
theorem dX7_of_114 : decode cX7_of 114 = .ok (.ireturn, 1) := by decide +kernel
theorem dX7_of_115 : decode cX7_of 115 = .ok (.aload_n 0, 1) := by decide +kernel
theorem dX7_of_116 : decode cX7_of 116 = .ok (.getfield 10, 3) := by decide +kernel
theorem dX7_of_119 : decode cX7_of 119 = .ok (.iload_n 1, 1) := by decide +kernel
theorem dX7_of_120 : decode cX7_of 120 = .ok (.invokevirtual 141, 3) := by decide +kernel
theorem dX7_of_123 : decode cX7_of 123 = .ok (.ireturn, 1) := by decide +kernel
theorem dX7_of_124 : decode cX7_of 124 = .ok (.bipush (-2), 2) := by decide +kernel
theorem dX7_of_126 : decode cX7_of 126 = .ok (.ireturn, 1) := by decide +kernel
set_option maxRecDepth 20000 in
theorem ggX7_ranked_X7_within : GoodIn wsX7_ranked wsX7_within := goodIn_r _ [7] (by decide +kernel) (by decide +kernel)
set_option maxRecDepth 20000 in
theorem gX7_ranked_X7_within : GoodIn wsX7_ranked (va_wsS RX7 100 yX7_within wsX7_within) := goodIn_app (goodIn_of _ (by decide +kernel)) ggX7_ranked_X7_within
theorem dX7_ranked_0 : decode cX7_ranked 0 = .ok (.iload_n 1, 1) := by decide +kernel
theorem dX7_ranked_1 : decode cX7_ranked 1 = .ok (.iconst 0, 1) := by decide +kernel
theorem dX7_ranked_2 : decode cX7_ranked 2 = .ok (.aload_n 0, 1) := by decide +kernel
theorem dX7_ranked_3 : decode cX7_ranked 3 = .ok (.getfield 10, 3) := by decide +kernel
theorem dX7_ranked_6 : decode cX7_ranked 6 = .ok (.getfield 74, 3) := by decide +kernel
theorem dX7_ranked_9 : decode cX7_ranked 9 = .ok (.iconst 1, 1) := by decide +kernel
theorem dX7_ranked_10 : decode cX7_ranked 10 = .ok (.isub, 1) := by decide +kernel
theorem dX7_ranked_11 : decode cX7_ranked 11 = .ok (.invokestatic 100, 3) := by decide +kernel
theorem dX7_ranked_14 : decode cX7_ranked 14 = .ok (.ifCond .eq 15, 3) := by decide +kernel
theorem dX7_ranked_17 : decode cX7_ranked 17 = .ok (.aload_n 0, 1) := by decide +kernel
theorem dX7_ranked_18 : decode cX7_ranked 18 = .ok (.getfield 10, 3) := by decide +kernel
theorem dX7_ranked_21 : decode cX7_ranked 21 = .ok (.getfield 144, 3) := by decide +kernel
theorem dX7_ranked_24 : decode cX7_ranked 24 = .ok (.iload_n 1, 1) := by decide +kernel
theorem dX7_ranked_25 : decode cX7_ranked 25 = .ok (.iaload, 1) := by decide +kernel
theorem dX7_ranked_26 : decode cX7_ranked 26 = .ok (.goto 5, 3) := by decide +kernel
theorem dX7_ranked_29 : decode cX7_ranked 29 = .ok (.bipush (-2), 2) := by decide +kernel
theorem dX7_ranked_31 : decode cX7_ranked 31 = .ok (.ireturn, 1) := by decide +kernel
set_option maxRecDepth 20000 in
theorem ggX7_sounding_X7_within : GoodIn wsX7_sounding wsX7_within := goodIn_r _ [6] (by decide +kernel) (by decide +kernel)
set_option maxRecDepth 20000 in
theorem gX7_sounding_X7_within : GoodIn wsX7_sounding (va_wsS RX7 100 yX7_within wsX7_within) := goodIn_app (goodIn_of _ (by decide +kernel)) ggX7_sounding_X7_within
set_option maxRecDepth 20000 in
theorem ggX7_sounding_X6_soundingAt : GoodIn wsX7_sounding wsX6_soundingAt := goodIn_r _ [11, 12, 13, 14, 22, 23, 24, 25, 26, 27, 28] (by decide +kernel) (by decide +kernel)
set_option maxRecDepth 20000 in
theorem gX7_sounding_X6_soundingAt : GoodIn wsX7_sounding (wsV RX7 148 RX6 yX6_soundingAt wsX6_soundingAt) := goodIn_app (goodIn_of _ (by decide +kernel)) ggX7_sounding_X6_soundingAt
theorem dX7_sounding_0 : decode cX7_sounding 0 = .ok (.iload_n 1, 1) := by decide +kernel
theorem dX7_sounding_1 : decode cX7_sounding 1 = .ok (.iconst 0, 1) := by decide +kernel
theorem dX7_sounding_2 : decode cX7_sounding 2 = .ok (.ldc 147, 2) := by decide +kernel
theorem dX7_sounding_4 : decode cX7_sounding 4 = .ok (.invokestatic 100, 3) := by decide +kernel
theorem dX7_sounding_7 : decode cX7_sounding 7 = .ok (.ifCond .eq 14, 3) := by decide +kernel
theorem dX7_sounding_10 : decode cX7_sounding 10 = .ok (.aload_n 0, 1) := by decide +kernel
theorem dX7_sounding_11 : decode cX7_sounding 11 = .ok (.getfield 10, 3) := by decide +kernel
theorem dX7_sounding_14 : decode cX7_sounding 14 = .ok (.iload_n 1, 1) := by decide +kernel
theorem dX7_sounding_15 : decode cX7_sounding 15 = .ok (.invokevirtual 148, 3) := by decide +kernel
theorem dX7_sounding_18 : decode cX7_sounding 18 = .ok (.goto 5, 3) := by decide +kernel
theorem dX7_sounding_21 : decode cX7_sounding 21 = .ok (.bipush (-2), 2) := by decide +kernel
theorem dX7_sounding_23 : decode cX7_sounding 23 = .ok (.ireturn, 1) := by decide +kernel
set_option maxRecDepth 20000 in
theorem ggX7_needed_X6_thickest : GoodIn wsX7_needed wsX6_thickest := goodIn_r _ [6, 7, 8, 9, 10, 11, 12, 13, 14, 15, 5, 16, 17, 25, 26, 27, 28, 29, 30, 31] (by decide +kernel) (by decide +kernel)
set_option maxRecDepth 20000 in
theorem gX7_needed_X6_thickest : GoodIn wsX7_needed (wsV RX7 151 RX6 yX6_thickest wsX6_thickest) := goodIn_app (goodIn_of _ (by decide +kernel)) ggX7_needed_X6_thickest
theorem dX7_needed_0 : decode cX7_needed 0 = .ok (.aload_n 0, 1) := by decide +kernel
theorem dX7_needed_1 : decode cX7_needed 1 = .ok (.getfield 10, 3) := by decide +kernel
theorem dX7_needed_4 : decode cX7_needed 4 = .ok (.invokevirtual 151, 3) := by decide +kernel
theorem dX7_needed_7 : decode cX7_needed 7 = .ok (.ireturn, 1) := by decide +kernel
set_option maxRecDepth 20000 in
theorem ggX7_rests_X7_within : GoodIn wsX7_rests wsX7_within := goodIn_r _ [6] (by decide +kernel) (by decide +kernel)
set_option maxRecDepth 20000 in
theorem gX7_rests_X7_within : GoodIn wsX7_rests (va_wsS RX7 100 yX7_within wsX7_within) := goodIn_app (goodIn_of _ (by decide +kernel)) ggX7_rests_X7_within
set_option maxRecDepth 20000 in
theorem ggX7_rests_X5_collect : GoodIn wsX7_rests wsX5_collect := goodIn_r _ [11, 12, 13, 14, 15, 16, 17, 18, 19, 20, 21, 22, 23, 24, 10, 25, 26, 27, 28, 29, 30, 31, 32, 33, 34, 35, 36, 37, 38, 39, 40, 48, 49, 50, 51, 52, 53, 54, 55, 56, 57, 58] (by decide +kernel) (by decide +kernel)
set_option maxRecDepth 20000 in
theorem gX7_rests_X5_collect : GoodIn wsX7_rests (wsV RX7 155 RX5 yX5_collect wsX5_collect) := goodIn_app (goodIn_of _ (by decide +kernel)) ggX7_rests_X5_collect
theorem dX7_rests_0 : decode cX7_rests 0 = .ok (.iload_n 1, 1) := by decide +kernel
theorem dX7_rests_1 : decode cX7_rests 1 = .ok (.iconst 0, 1) := by decide +kernel
theorem dX7_rests_2 : decode cX7_rests 2 = .ok (.iconst 4, 1) := by decide +kernel
theorem dX7_rests_3 : decode cX7_rests 3 = .ok (.invokestatic 100, 3) := by decide +kernel
theorem dX7_rests_6 : decode cX7_rests 6 = .ok (.ifCond .ne 6, 3) := by decide +kernel
theorem dX7_rests_9 : decode cX7_rests 9 = .ok (.bipush (-2), 2) := by decide +kernel
theorem dX7_rests_11 : decode cX7_rests 11 = .ok (.ireturn, 1) := by decide +kernel
theorem dX7_rests_12 : decode cX7_rests 12 = .ok (.aload_n 0, 1) := by decide +kernel
theorem dX7_rests_13 : decode cX7_rests 13 = .ok (.getfield 33, 3) := by decide +kernel
theorem dX7_rests_16 : decode cX7_rests 16 = .ok (.iload_n 1, 1) := by decide +kernel
theorem dX7_rests_17 : decode cX7_rests 17 = .ok (.invokevirtual 155, 3) := by decide +kernel
theorem dX7_rests_20 : decode cX7_rests 20 = .ok (.aload_n 0, 1) := by decide +kernel
theorem dX7_rests_21 : decode cX7_rests 21 = .ok (.getfield 33, 3) := by decide +kernel
theorem dX7_rests_24 : decode cX7_rests 24 = .ok (.getfield 159, 3) := by decide +kernel
theorem dX7_rests_27 : decode cX7_rests 27 = .ok (.ireturn, 1) := by decide +kernel
set_option maxRecDepth 20000 in
theorem ggX7_rest_X7_within : GoodIn wsX7_rest wsX7_within := goodIn_r _ [8] (by decide +kernel) (by decide +kernel)
set_option maxRecDepth 20000 in
theorem gX7_rest_X7_within : GoodIn wsX7_rest (va_wsS RX7 100 yX7_within wsX7_within) := goodIn_app (goodIn_of _ (by decide +kernel)) ggX7_rest_X7_within
set_option maxRecDepth 20000 in
theorem ggX7_rest_X5_collect : GoodIn wsX7_rest wsX5_collect := goodIn_r _ [13, 14, 15, 16, 17, 18, 19, 20, 21, 22, 23, 24, 25, 26, 12, 27, 28, 29, 30, 31, 32, 33, 34, 35, 36, 37, 38, 39, 40, 41, 42, 50, 51, 52, 53, 54, 55, 56, 57, 58, 59, 60] (by decide +kernel) (by decide +kernel)
set_option maxRecDepth 20000 in
theorem gX7_rest_X5_collect : GoodIn wsX7_rest (wsV RX7 155 RX5 yX5_collect wsX5_collect) := goodIn_app (goodIn_of _ (by decide +kernel)) ggX7_rest_X5_collect
theorem dX7_rest_0 : decode cX7_rest 0 = .ok (.iload_n 1, 1) := by decide +kernel
theorem dX7_rest_1 : decode cX7_rest 1 = .ok (.iconst 0, 1) := by decide +kernel
theorem dX7_rest_2 : decode cX7_rest 2 = .ok (.iconst 4, 1) := by decide +kernel
theorem dX7_rest_3 : decode cX7_rest 3 = .ok (.invokestatic 100, 3) := by decide +kernel
theorem dX7_rest_6 : decode cX7_rest 6 = .ok (.ifCond .eq 12, 3) := by decide +kernel
theorem dX7_rest_9 : decode cX7_rest 9 = .ok (.iload_n 3, 1) := by decide +kernel
theorem dX7_rest_10 : decode cX7_rest 10 = .ok (.iconst 0, 1) := by decide +kernel
theorem dX7_rest_11 : decode cX7_rest 11 = .ok (.iconst 1, 1) := by decide +kernel
theorem dX7_rest_12 : decode cX7_rest 12 = .ok (.invokestatic 100, 3) := by decide +kernel
theorem dX7_rest_15 : decode cX7_rest 15 = .ok (.ifCond .ne 6, 3) := by decide +kernel
theorem dX7_rest_18 : decode cX7_rest 18 = .ok (.bipush (-2), 2) := by decide +kernel
theorem dX7_rest_20 : decode cX7_rest 20 = .ok (.ireturn, 1) := by decide +kernel
theorem dX7_rest_21 : decode cX7_rest 21 = .ok (.aload_n 0, 1) := by decide +kernel
theorem dX7_rest_22 : decode cX7_rest 22 = .ok (.getfield 33, 3) := by decide +kernel
theorem dX7_rest_25 : decode cX7_rest 25 = .ok (.iload_n 1, 1) := by decide +kernel
theorem dX7_rest_26 : decode cX7_rest 26 = .ok (.invokevirtual 155, 3) := by decide +kernel
theorem dX7_rest_29 : decode cX7_rest 29 = .ok (.iload_n 2, 1) := by decide +kernel
theorem dX7_rest_30 : decode cX7_rest 30 = .ok (.iconst 0, 1) := by decide +kernel
theorem dX7_rest_31 : decode cX7_rest 31 = .ok (.aload_n 0, 1) := by decide +kernel
theorem dX7_rest_32 : decode cX7_rest 32 = .ok (.getfield 33, 3) := by decide +kernel
theorem dX7_rest_35 : decode cX7_rest 35 = .ok (.getfield 159, 3) := by decide +kernel
theorem dX7_rest_38 : decode cX7_rest 38 = .ok (.iconst 1, 1) := by decide +kernel
theorem dX7_rest_39 : decode cX7_rest 39 = .ok (.isub, 1) := by decide +kernel
theorem dX7_rest_40 : decode cX7_rest 40 = .ok (.invokestatic 100, 3) := by decide +kernel
theorem dX7_rest_43 : decode cX7_rest 43 = .ok (.ifCond .ne 6, 3) := by decide +kernel
theorem dX7_rest_46 : decode cX7_rest 46 = .ok (.bipush (-2), 2) := by decide +kernel
theorem dX7_rest_48 : decode cX7_rest 48 = .ok (.ireturn, 1) := by decide +kernel
theorem dX7_rest_49 : decode cX7_rest 49 = .ok (.iload_n 3, 1) := by decide +kernel
theorem dX7_rest_50 : decode cX7_rest 50 = .ok (.ifCond .ne 15, 3) := by decide +kernel
theorem dX7_rest_53 : decode cX7_rest 53 = .ok (.aload_n 0, 1) := by decide +kernel
theorem dX7_rest_54 : decode cX7_rest 54 = .ok (.getfield 33, 3) := by decide +kernel
theorem dX7_rest_57 : decode cX7_rest 57 = .ok (.getfield 160, 3) := by decide +kernel
theorem dX7_rest_60 : decode cX7_rest 60 = .ok (.iload_n 2, 1) := by decide +kernel
theorem dX7_rest_61 : decode cX7_rest 61 = .ok (.iaload, 1) := by decide +kernel
theorem dX7_rest_62 : decode cX7_rest 62 = .ok (.goto 12, 3) := by decide +kernel
theorem dX7_rest_65 : decode cX7_rest 65 = .ok (.aload_n 0, 1) := by decide +kernel
theorem dX7_rest_66 : decode cX7_rest 66 = .ok (.getfield 33, 3) := by decide +kernel
theorem dX7_rest_69 : decode cX7_rest 69 = .ok (.getfield 163, 3) := by decide +kernel
theorem dX7_rest_72 : decode cX7_rest 72 = .ok (.iload_n 2, 1) := by decide +kernel
theorem dX7_rest_73 : decode cX7_rest 73 = .ok (.iaload, 1) := by decide +kernel
theorem dX7_rest_74 : decode cX7_rest 74 = .ok (.ireturn, 1) := by decide +kernel
set_option maxRecDepth 20000 in
theorem ggX7_pairs_X7_within : GoodIn wsX7_pairs wsX7_within := goodIn_r _ [5] (by decide +kernel) (by decide +kernel)
set_option maxRecDepth 20000 in
theorem gX7_pairs_X7_within : GoodIn wsX7_pairs (va_wsS RX7 100 yX7_within wsX7_within) := goodIn_app (goodIn_of _ (by decide +kernel)) ggX7_pairs_X7_within
set_option maxRecDepth 20000 in
theorem ggX7_pairs_X4_scan : GoodIn wsX7_pairs wsX4_scan := goodIn_r _ [10, 11, 12, 13, 14, 15, 16, 17, 18, 9, 19, 20, 21, 22, 23, 24, 25, 26, 27, 28, 29, 30, 31, 32, 33, 34, 35, 36, 37, 38, 39, 40, 41, 42, 50, 51, 52, 53, 54, 55, 56, 57, 58, 59] (by decide +kernel) (by decide +kernel)
set_option maxRecDepth 20000 in
theorem gX7_pairs_X4_scan : GoodIn wsX7_pairs (wsV RX7 166 RX4 yX4_scan wsX4_scan) := goodIn_app (goodIn_of _ (by decide +kernel)) ggX7_pairs_X4_scan
theorem dX7_pairs_0 : decode cX7_pairs 0 = .ok (.iload_n 1, 1) := by decide +kernel
theorem dX7_pairs_1 : decode cX7_pairs 1 = .ok (.iconst 0, 1) := by decide +kernel
theorem dX7_pairs_2 : decode cX7_pairs 2 = .ok (.iconst 2, 1) := by decide +kernel
theorem dX7_pairs_3 : decode cX7_pairs 3 = .ok (.invokestatic 100, 3) := by decide +kernel
theorem dX7_pairs_6 : decode cX7_pairs 6 = .ok (.ifCond .eq 15, 3) := by decide +kernel
theorem dX7_pairs_9 : decode cX7_pairs 9 = .ok (.aload_n 0, 1) := by decide +kernel
theorem dX7_pairs_10 : decode cX7_pairs 10 = .ok (.getfield 40, 3) := by decide +kernel
theorem dX7_pairs_13 : decode cX7_pairs 13 = .ok (.iload_n 1, 1) := by decide +kernel
theorem dX7_pairs_14 : decode cX7_pairs 14 = .ok (.iconst (-1), 1) := by decide +kernel
theorem dX7_pairs_15 : decode cX7_pairs 15 = .ok (.invokevirtual 166, 3) := by decide +kernel
theorem dX7_pairs_18 : decode cX7_pairs 18 = .ok (.goto 5, 3) := by decide +kernel
theorem dX7_pairs_21 : decode cX7_pairs 21 = .ok (.bipush (-2), 2) := by decide +kernel
theorem dX7_pairs_23 : decode cX7_pairs 23 = .ok (.ireturn, 1) := by decide +kernel
set_option maxRecDepth 20000 in
theorem ggX7_pair_X7_within : GoodIn wsX7_pair wsX7_within := goodIn_r _ [7] (by decide +kernel) (by decide +kernel)
set_option maxRecDepth 20000 in
theorem gX7_pair_X7_within : GoodIn wsX7_pair (va_wsS RX7 100 yX7_within wsX7_within) := goodIn_app (goodIn_of _ (by decide +kernel)) ggX7_pair_X7_within
set_option maxRecDepth 20000 in
theorem ggX7_pair_X4_scan : GoodIn wsX7_pair wsX4_scan := goodIn_r _ [12, 13, 14, 15, 16, 17, 18, 19, 20, 11, 21, 22, 23, 24, 25, 26, 27, 28, 29, 30, 31, 32, 33, 34, 35, 36, 37, 38, 39, 40, 41, 42, 43, 44, 52, 53, 54, 55, 56, 57, 58, 59, 60, 61] (by decide +kernel) (by decide +kernel)
set_option maxRecDepth 20000 in
theorem gX7_pair_X4_scan : GoodIn wsX7_pair (wsV RX7 166 RX4 yX4_scan wsX4_scan) := goodIn_app (goodIn_of _ (by decide +kernel)) ggX7_pair_X4_scan
theorem dX7_pair_0 : decode cX7_pair 0 = .ok (.iload_n 1, 1) := by decide +kernel
theorem dX7_pair_1 : decode cX7_pair 1 = .ok (.iconst 0, 1) := by decide +kernel
theorem dX7_pair_2 : decode cX7_pair 2 = .ok (.iconst 2, 1) := by decide +kernel
theorem dX7_pair_3 : decode cX7_pair 3 = .ok (.invokestatic 100, 3) := by decide +kernel
theorem dX7_pair_6 : decode cX7_pair 6 = .ok (.ifCond .eq 12, 3) := by decide +kernel
theorem dX7_pair_9 : decode cX7_pair 9 = .ok (.iload_n 3, 1) := by decide +kernel
theorem dX7_pair_10 : decode cX7_pair 10 = .ok (.iconst 0, 1) := by decide +kernel
theorem dX7_pair_11 : decode cX7_pair 11 = .ok (.iconst 1, 1) := by decide +kernel
theorem dX7_pair_12 : decode cX7_pair 12 = .ok (.invokestatic 100, 3) := by decide +kernel
theorem dX7_pair_15 : decode cX7_pair 15 = .ok (.ifCond .ne 6, 3) := by decide +kernel
theorem dX7_pair_18 : decode cX7_pair 18 = .ok (.bipush (-2), 2) := by decide +kernel
theorem dX7_pair_20 : decode cX7_pair 20 = .ok (.ireturn, 1) := by decide +kernel
theorem dX7_pair_21 : decode cX7_pair 21 = .ok (.aload_n 0, 1) := by decide +kernel
theorem dX7_pair_22 : decode cX7_pair 22 = .ok (.getfield 40, 3) := by decide +kernel
theorem dX7_pair_25 : decode cX7_pair 25 = .ok (.iload_n 1, 1) := by decide +kernel
theorem dX7_pair_26 : decode cX7_pair 26 = .ok (.iload_n 2, 1) := by decide +kernel
theorem dX7_pair_27 : decode cX7_pair 27 = .ok (.invokevirtual 166, 3) := by decide +kernel
theorem dX7_pair_30 : decode cX7_pair 30 = .ok (.istore 4, 2) := by decide +kernel
theorem dX7_pair_32 : decode cX7_pair 32 = .ok (.iload_n 2, 1) := by decide +kernel
theorem dX7_pair_33 : decode cX7_pair 33 = .ok (.iconst 0, 1) := by decide +kernel
theorem dX7_pair_34 : decode cX7_pair 34 = .ok (.iload 4, 2) := by decide +kernel
theorem dX7_pair_36 : decode cX7_pair 36 = .ok (.iconst 1, 1) := by decide +kernel
theorem dX7_pair_37 : decode cX7_pair 37 = .ok (.isub, 1) := by decide +kernel
theorem dX7_pair_38 : decode cX7_pair 38 = .ok (.invokestatic 100, 3) := by decide +kernel
theorem dX7_pair_41 : decode cX7_pair 41 = .ok (.ifCond .ne 6, 3) := by decide +kernel
theorem dX7_pair_44 : decode cX7_pair 44 = .ok (.bipush (-2), 2) := by decide +kernel
theorem dX7_pair_46 : decode cX7_pair 46 = .ok (.ireturn, 1) := by decide +kernel
theorem dX7_pair_47 : decode cX7_pair 47 = .ok (.iload_n 3, 1) := by decide +kernel
theorem dX7_pair_48 : decode cX7_pair 48 = .ok (.ifCond .ne 13, 3) := by decide +kernel
theorem dX7_pair_51 : decode cX7_pair 51 = .ok (.aload_n 0, 1) := by decide +kernel
theorem dX7_pair_52 : decode cX7_pair 52 = .ok (.getfield 40, 3) := by decide +kernel
theorem dX7_pair_55 : decode cX7_pair 55 = .ok (.getfield 170, 3) := by decide +kernel
theorem dX7_pair_58 : decode cX7_pair 58 = .ok (.goto 10, 3) := by decide +kernel
theorem dX7_pair_61 : decode cX7_pair 61 = .ok (.aload_n 0, 1) := by decide +kernel
theorem dX7_pair_62 : decode cX7_pair 62 = .ok (.getfield 40, 3) := by decide +kernel
theorem dX7_pair_65 : decode cX7_pair 65 = .ok (.getfield 173, 3) := by decide +kernel
theorem dX7_pair_68 : decode cX7_pair 68 = .ok (.ireturn, 1) := by decide +kernel
set_option maxRecDepth 20000 in
theorem ggX7_voice_X7_within : GoodIn wsX7_voice wsX7_within := goodIn_r _ [5] (by decide +kernel) (by decide +kernel)
set_option maxRecDepth 20000 in
theorem gX7_voice_X7_within : GoodIn wsX7_voice (va_wsS RX7 100 yX7_within wsX7_within) := goodIn_app (goodIn_of _ (by decide +kernel)) ggX7_voice_X7_within
set_option maxRecDepth 20000 in
theorem ggX7_voice_X6_lowestIn : GoodIn wsX7_voice wsX6_lowestIn := goodIn_r _ [10, 11, 12, 13, 33, 34, 35, 36, 37, 38, 39] (by decide +kernel) (by decide +kernel)
set_option maxRecDepth 20000 in
theorem gX7_voice_X6_lowestIn : GoodIn wsX7_voice (wsV RX7 176 RX6 yX6_lowestIn wsX6_lowestIn) := goodIn_app (goodIn_of _ (by decide +kernel)) ggX7_voice_X6_lowestIn
set_option maxRecDepth 20000 in
theorem ggX7_voice_X6_highestIn : GoodIn wsX7_voice wsX6_highestIn := goodIn_r _ [17, 11, 12, 13, 18, 19, 20, 21, 33, 34, 35, 36, 37, 38, 39] (by decide +kernel) (by decide +kernel)
set_option maxRecDepth 20000 in
theorem gX7_voice_X6_highestIn : GoodIn wsX7_voice (wsV RX7 179 RX6 yX6_highestIn wsX6_highestIn) := goodIn_app (goodIn_of _ (by decide +kernel)) ggX7_voice_X6_highestIn
set_option maxRecDepth 20000 in
theorem ggX7_voice_X6_notesIn : GoodIn wsX7_voice wsX6_notesIn := goodIn_r _ [25, 11, 12, 33, 34, 35, 36, 37, 38, 39] (by decide +kernel) (by decide +kernel)
set_option maxRecDepth 20000 in
theorem gX7_voice_X6_notesIn : GoodIn wsX7_voice (wsV RX7 182 RX6 yX6_notesIn wsX6_notesIn) := goodIn_app (goodIn_of _ (by decide +kernel)) ggX7_voice_X6_notesIn
theorem dX7_voice_0 : decode cX7_voice 0 = .ok (.iload_n 1, 1) := by decide +kernel
theorem dX7_voice_1 : decode cX7_voice 1 = .ok (.iconst 0, 1) := by decide +kernel
theorem dX7_voice_2 : decode cX7_voice 2 = .ok (.iconst 3, 1) := by decide +kernel
theorem dX7_voice_3 : decode cX7_voice 3 = .ok (.invokestatic 100, 3) := by decide +kernel
theorem dX7_voice_6 : decode cX7_voice 6 = .ok (.ifCond .ne 6, 3) := by decide +kernel
theorem dX7_voice_9 : decode cX7_voice 9 = .ok (.bipush (-2), 2) := by decide +kernel
theorem dX7_voice_11 : decode cX7_voice 11 = .ok (.ireturn, 1) := by decide +kernel
theorem dX7_voice_12 : decode cX7_voice 12 = .ok (.iload_n 2, 1) := by decide +kernel
theorem dX7_voice_13 : decode cX7_voice 13 = .ok (.tableswitch 54 0 2 #[27, 36, 45], 27) := by decide +kernel
theorem dX7_voice_40 : decode cX7_voice 40 = .ok (.aload_n 0, 1) := by decide +kernel
theorem dX7_voice_41 : decode cX7_voice 41 = .ok (.getfield 10, 3) := by decide +kernel
theorem dX7_voice_44 : decode cX7_voice 44 = .ok (.iload_n 1, 1) := by decide +kernel
theorem dX7_voice_45 : decode cX7_voice 45 = .ok (.invokevirtual 176, 3) := by decide +kernel
theorem dX7_voice_48 : decode cX7_voice 48 = .ok (.ireturn, 1) := by decide +kernel
theorem dX7_voice_49 : decode cX7_voice 49 = .ok (.aload_n 0, 1) := by decide +kernel
theorem dX7_voice_50 : decode cX7_voice 50 = .ok (.getfield 10, 3) := by decide +kernel
theorem dX7_voice_53 : decode cX7_voice 53 = .ok (.iload_n 1, 1) := by decide +kernel
theorem dX7_voice_54 : decode cX7_voice 54 = .ok (.invokevirtual 179, 3) := by decide +kernel
theorem dX7_voice_57 : decode cX7_voice 57 = .ok (.ireturn, 1) := by decide +kernel
theorem dX7_voice_58 : decode cX7_voice 58 = .ok (.aload_n 0, 1) := by decide +kernel
theorem dX7_voice_59 : decode cX7_voice 59 = .ok (.getfield 10, 3) := by decide +kernel
theorem dX7_voice_62 : decode cX7_voice 62 = .ok (.iload_n 1, 1) := by decide +kernel
theorem dX7_voice_63 : decode cX7_voice 63 = .ok (.invokevirtual 182, 3) := by decide +kernel
theorem dX7_voice_66 : decode cX7_voice 66 = .ok (.ireturn, 1) := by decide +kernel
theorem dX7_voice_67 : decode cX7_voice 67 = .ok (.bipush (-2), 2) := by decide +kernel
theorem dX7_voice_69 : decode cX7_voice 69 = .ok (.ireturn, 1) := by decide +kernel
set_option maxRecDepth 20000 in
theorem ggX7_told_X6_notesIn : GoodIn wsX7_told wsX6_notesIn := goodIn_r _ [7, 8, 9, 46, 47, 48, 49, 50, 51, 52] (by decide +kernel) (by decide +kernel)
set_option maxRecDepth 20000 in
theorem gX7_told_X6_notesIn : GoodIn wsX7_told (wsV RX7 182 RX6 yX6_notesIn wsX6_notesIn) := goodIn_app (goodIn_of _ (by decide +kernel)) ggX7_told_X6_notesIn
set_option maxRecDepth 20000 in
theorem ggX7_told_X6_theEnd : GoodIn wsX7_told wsX6_theEnd := goodIn_r _ [13, 8, 14, 15, 16, 17, 18, 46, 47, 48, 49, 50, 51, 52] (by decide +kernel) (by decide +kernel)
set_option maxRecDepth 20000 in
theorem gX7_told_X6_theEnd : GoodIn wsX7_told (wsV RX7 185 RX6 yX6_theEnd wsX6_theEnd) := goodIn_app (goodIn_of _ (by decide +kernel)) ggX7_told_X6_theEnd
set_option maxRecDepth 20000 in
theorem ggX7_told_X6_isWhole : GoodIn wsX7_told wsX6_isWhole := goodIn_r _ [22, 8, 9, 23, 24, 25, 6, 26, 27, 28, 29, 30, 31, 32, 33, 14, 46, 47, 48, 49, 50, 51, 52] (by decide +kernel) (by decide +kernel)
set_option maxRecDepth 20000 in
theorem gX7_told_X6_isWhole : GoodIn wsX7_told (wsV RX7 119 RX6 yX6_isWhole wsX6_isWhole) := goodIn_app (goodIn_of _ (by decide +kernel)) ggX7_told_X6_isWhole
set_option maxRecDepth 20000 in
theorem ggX7_told_X6_voicesUsed : GoodIn wsX7_told wsX6_voicesUsed := goodIn_r _ [37, 38, 4, 5, 6, 7, 8, 9, 46, 47, 48, 49, 50, 51, 52] (by decide +kernel) (by decide +kernel)
set_option maxRecDepth 20000 in
theorem gX7_told_X6_voicesUsed : GoodIn wsX7_told (wsV RX7 188 RX6 yX6_voicesUsed wsX6_voicesUsed) := goodIn_app (goodIn_of _ (by decide +kernel)) ggX7_told_X6_voicesUsed
theorem dX7_told_0 : decode cX7_told 0 = .ok (.iload_n 1, 1) := by decide +kernel
theorem dX7_told_1 : decode cX7_told 1 = .ok (.tableswitch 92 0 4 #[35, 43, 60, 68, 84], 35) := by decide +kernel
theorem dX7_told_36 : decode cX7_told 36 = .ok (.aload_n 0, 1) := by decide +kernel
theorem dX7_told_37 : decode cX7_told 37 = .ok (.getfield 10, 3) := by decide +kernel
theorem dX7_told_40 : decode cX7_told 40 = .ok (.getfield 74, 3) := by decide +kernel
theorem dX7_told_43 : decode cX7_told 43 = .ok (.ireturn, 1) := by decide +kernel
theorem dX7_told_44 : decode cX7_told 44 = .ok (.aload_n 0, 1) := by decide +kernel
theorem dX7_told_45 : decode cX7_told 45 = .ok (.getfield 10, 3) := by decide +kernel
theorem dX7_told_48 : decode cX7_told 48 = .ok (.getfield 74, 3) := by decide +kernel
theorem dX7_told_51 : decode cX7_told 51 = .ok (.aload_n 0, 1) := by decide +kernel
theorem dX7_told_52 : decode cX7_told 52 = .ok (.getfield 10, 3) := by decide +kernel
theorem dX7_told_55 : decode cX7_told 55 = .ok (.iconst (-1), 1) := by decide +kernel
theorem dX7_told_56 : decode cX7_told 56 = .ok (.invokevirtual 182, 3) := by decide +kernel
theorem dX7_told_59 : decode cX7_told 59 = .ok (.isub, 1) := by decide +kernel
theorem dX7_told_60 : decode cX7_told 60 = .ok (.ireturn, 1) := by decide +kernel
theorem dX7_told_61 : decode cX7_told 61 = .ok (.aload_n 0, 1) := by decide +kernel
theorem dX7_told_62 : decode cX7_told 62 = .ok (.getfield 10, 3) := by decide +kernel
theorem dX7_told_65 : decode cX7_told 65 = .ok (.invokevirtual 185, 3) := by decide +kernel
theorem dX7_told_68 : decode cX7_told 68 = .ok (.ireturn, 1) := by decide +kernel
theorem dX7_told_69 : decode cX7_told 69 = .ok (.aload_n 0, 1) := by decide +kernel
theorem dX7_told_70 : decode cX7_told 70 = .ok (.getfield 10, 3) := by decide +kernel
theorem dX7_told_73 : decode cX7_told 73 = .ok (.invokevirtual 119, 3) := by decide +kernel
theorem dX7_told_76 : decode cX7_told 76 = .ok (.ifCond .eq 7, 3) := by decide +kernel
theorem dX7_told_79 : decode cX7_told 79 = .ok (.iconst 1, 1) := by decide +kernel
theorem dX7_told_80 : decode cX7_told 80 = .ok (.goto 4, 3) := by decide +kernel
theorem dX7_told_83 : decode cX7_told 83 = .ok (.iconst 0, 1) := by decide +kernel
theorem dX7_told_84 : decode cX7_told 84 = .ok (.ireturn, 1) := by decide +kernel
theorem dX7_told_85 : decode cX7_told 85 = .ok (.aload_n 0, 1) := by decide +kernel
theorem dX7_told_86 : decode cX7_told 86 = .ok (.getfield 10, 3) := by decide +kernel
theorem dX7_told_89 : decode cX7_told 89 = .ok (.invokevirtual 188, 3) := by decide +kernel
theorem dX7_told_92 : decode cX7_told 92 = .ok (.ireturn, 1) := by decide +kernel
theorem dX7_told_93 : decode cX7_told 93 = .ok (.bipush (-2), 2) := by decide +kernel
theorem dX7_told_95 : decode cX7_told 95 = .ok (.ireturn, 1) := by decide +kernel
theorem dX7_within_0 : decode cX7_within 0 = .ok (.iload_n 1, 1) := by decide +kernel
theorem dX7_within_1 : decode cX7_within 1 = .ok (.iload_n 0, 1) := by decide +kernel
theorem dX7_within_2 : decode cX7_within 2 = .ok (.if_icmp .gt 12, 3) := by decide +kernel
theorem dX7_within_5 : decode cX7_within 5 = .ok (.iload_n 0, 1) := by decide +kernel
theorem dX7_within_6 : decode cX7_within 6 = .ok (.iload_n 2, 1) := by decide +kernel
theorem dX7_within_7 : decode cX7_within 7 = .ok (.if_icmp .gt 7, 3) := by decide +kernel
theorem dX7_within_10 : decode cX7_within 10 = .ok (.iconst 1, 1) := by decide +kernel
theorem dX7_within_11 : decode cX7_within 11 = .ok (.goto 4, 3) := by decide +kernel
theorem dX7_within_14 : decode cX7_within 14 = .ok (.iconst 0, 1) := by decide +kernel
theorem dX7_within_15 : decode cX7_within 15 = .ok (.ireturn, 1) := by decide +kernel
set_option maxRecDepth 20000 in
theorem ggX7_canSound_X7_within : GoodIn wsX7_canSound wsX7_within := goodIn_r _ [5] (by decide +kernel) (by decide +kernel)
set_option maxRecDepth 20000 in
theorem gX7_canSound_X7_within : GoodIn wsX7_canSound (va_wsS RX7 100 yX7_within wsX7_within) := goodIn_app (goodIn_of _ (by decide +kernel)) ggX7_canSound_X7_within
theorem dX7_canSound_0 : decode cX7_canSound 0 = .ok (.iconst 0, 1) := by decide +kernel
theorem dX7_canSound_1 : decode cX7_canSound 1 = .ok (.iload_n 0, 1) := by decide +kernel
theorem dX7_canSound_2 : decode cX7_canSound 2 = .ok (.if_icmp .gt 28, 3) := by decide +kernel
theorem dX7_canSound_5 : decode cX7_canSound 5 = .ok (.iload_n 0, 1) := by decide +kernel
theorem dX7_canSound_6 : decode cX7_canSound 6 = .ok (.iload_n 1, 1) := by decide +kernel
theorem dX7_canSound_7 : decode cX7_canSound 7 = .ok (.if_icmp .ge 23, 3) := by decide +kernel
theorem dX7_canSound_10 : decode cX7_canSound 10 = .ok (.iload_n 1, 1) := by decide +kernel
theorem dX7_canSound_11 : decode cX7_canSound 11 = .ok (.ldc 147, 2) := by decide +kernel
theorem dX7_canSound_13 : decode cX7_canSound 13 = .ok (.if_icmp .gt 17, 3) := by decide +kernel
theorem dX7_canSound_16 : decode cX7_canSound 16 = .ok (.iload_n 2, 1) := by decide +kernel
theorem dX7_canSound_17 : decode cX7_canSound 17 = .ok (.iconst 0, 1) := by decide +kernel
theorem dX7_canSound_18 : decode cX7_canSound 18 = .ok (.bipush 127, 2) := by decide +kernel
theorem dX7_canSound_20 : decode cX7_canSound 20 = .ok (.invokestatic 100, 3) := by decide +kernel
theorem dX7_canSound_23 : decode cX7_canSound 23 = .ok (.ifCond .eq 7, 3) := by decide +kernel
theorem dX7_canSound_26 : decode cX7_canSound 26 = .ok (.iconst 1, 1) := by decide +kernel
theorem dX7_canSound_27 : decode cX7_canSound 27 = .ok (.goto 4, 3) := by decide +kernel
theorem dX7_canSound_30 : decode cX7_canSound 30 = .ok (.iconst 0, 1) := by decide +kernel
theorem dX7_canSound_31 : decode cX7_canSound 31 = .ok (.ireturn, 1) := by decide +kernel
theorem dX8_init_0 : decode cX8_init 0 = .ok (.aload_n 0, 1) := by decide +kernel
theorem dX8_init_1 : decode cX8_init 1 = .ok (.invokespecial 1, 3) := by decide +kernel
theorem dX8_init_4 : decode cX8_init 4 = .ok (.aload_n 0, 1) := by decide +kernel
theorem dX8_init_5 : decode cX8_init 5 = .ok (.bipush 60, 2) := by decide +kernel
theorem dX8_init_7 : decode cX8_init 7 = .ok (.newarray .int, 2) := by decide +kernel
theorem dX8_init_9 : decode cX8_init 9 = .ok (.putfield 7, 3) := by decide +kernel
theorem dX8_init_12 : decode cX8_init 12 = .ok (.aload_n 0, 1) := by decide +kernel
theorem dX8_init_13 : decode cX8_init 13 = .ok (.bipush 60, 2) := by decide +kernel
theorem dX8_init_15 : decode cX8_init 15 = .ok (.newarray .int, 2) := by decide +kernel
theorem dX8_init_17 : decode cX8_init 17 = .ok (.putfield 13, 3) := by decide +kernel
theorem dX8_init_20 : decode cX8_init 20 = .ok (.aload_n 0, 1) := by decide +kernel
theorem dX8_init_21 : decode cX8_init 21 = .ok (.bipush 60, 2) := by decide +kernel
theorem dX8_init_23 : decode cX8_init 23 = .ok (.newarray .int, 2) := by decide +kernel
theorem dX8_init_25 : decode cX8_init 25 = .ok (.putfield 16, 3) := by decide +kernel
theorem dX8_init_28 : decode cX8_init 28 = .ok (.aload_n 0, 1) := by decide +kernel
theorem dX8_init_29 : decode cX8_init 29 = .ok (.bipush 60, 2) := by decide +kernel
theorem dX8_init_31 : decode cX8_init 31 = .ok (.newarray .int, 2) := by decide +kernel
theorem dX8_init_33 : decode cX8_init 33 = .ok (.putfield 19, 3) := by decide +kernel
theorem dX8_init_36 : decode cX8_init 36 = .ok (.aload_n 0, 1) := by decide +kernel
theorem dX8_init_37 : decode cX8_init 37 = .ok (.iconst 4, 1) := by decide +kernel
theorem dX8_init_38 : decode cX8_init 38 = .ok (.newarray .int, 2) := by decide +kernel
theorem dX8_init_40 : decode cX8_init 40 = .ok (.dup, 1) := by decide +kernel
theorem dX8_init_41 : decode cX8_init 41 = .ok (.iconst 0, 1) := by decide +kernel
theorem dX8_init_42 : decode cX8_init 42 = .ok (.iconst 1, 1) := by decide +kernel
theorem dX8_init_43 : decode cX8_init 43 = .ok (.iastore, 1) := by decide +kernel
theorem dX8_init_44 : decode cX8_init 44 = .ok (.dup, 1) := by decide +kernel
theorem dX8_init_45 : decode cX8_init 45 = .ok (.iconst 1, 1) := by decide +kernel
theorem dX8_init_46 : decode cX8_init 46 = .ok (.iconst 1, 1) := by decide +kernel
theorem dX8_init_47 : decode cX8_init 47 = .ok (.iastore, 1) := by decide +kernel
theorem dX8_init_48 : decode cX8_init 48 = .ok (.dup, 1) := by decide +kernel
theorem dX8_init_49 : decode cX8_init 49 = .ok (.iconst 2, 1) := by decide +kernel
theorem dX8_init_50 : decode cX8_init 50 = .ok (.bipush 12, 2) := by decide +kernel
theorem dX8_init_52 : decode cX8_init 52 = .ok (.iastore, 1) := by decide +kernel
theorem dX8_init_53 : decode cX8_init 53 = .ok (.dup, 1) := by decide +kernel
theorem dX8_init_54 : decode cX8_init 54 = .ok (.iconst 3, 1) := by decide +kernel
theorem dX8_init_55 : decode cX8_init 55 = .ok (.iconst 0, 1) := by decide +kernel
theorem dX8_init_56 : decode cX8_init 56 = .ok (.iastore, 1) := by decide +kernel
theorem dX8_init_57 : decode cX8_init 57 = .ok (.putfield 22, 3) := by decide +kernel
theorem dX8_init_60 : decode cX8_init 60 = .ok (.aload_n 0, 1) := by decide +kernel
theorem dX8_init_61 : decode cX8_init 61 = .ok (.bipush 60, 2) := by decide +kernel
theorem dX8_init_63 : decode cX8_init 63 = .ok (.newarray .int, 2) := by decide +kernel
theorem dX8_init_65 : decode cX8_init 65 = .ok (.putfield 25, 3) := by decide +kernel
theorem dX8_init_68 : decode cX8_init 68 = .ok (.aload_n 0, 1) := by decide +kernel
theorem dX8_init_69 : decode cX8_init 69 = .ok (.bipush 60, 2) := by decide +kernel
theorem dX8_init_71 : decode cX8_init 71 = .ok (.newarray .int, 2) := by decide +kernel
theorem dX8_init_73 : decode cX8_init 73 = .ok (.putfield 28, 3) := by decide +kernel
theorem dX8_init_76 : decode cX8_init 76 = .ok (.aload_n 0, 1) := by decide +kernel
theorem dX8_init_77 : decode cX8_init 77 = .ok (.iconst 4, 1) := by decide +kernel
theorem dX8_init_78 : decode cX8_init 78 = .ok (.newarray .int, 2) := by decide +kernel
theorem dX8_init_80 : decode cX8_init 80 = .ok (.putfield 31, 3) := by decide +kernel
theorem dX8_init_83 : decode cX8_init 83 = .ok (.aload_n 0, 1) := by decide +kernel
theorem dX8_init_84 : decode cX8_init 84 = .ok (.ldc 34, 2) := by decide +kernel
theorem dX8_init_86 : decode cX8_init 86 = .ok (.newarray .int, 2) := by decide +kernel
theorem dX8_init_88 : decode cX8_init 88 = .ok (.putfield 35, 3) := by decide +kernel
theorem dX8_init_91 : decode cX8_init 91 = .ok (.return_, 1) := by decide +kernel
theorem dX8_clear_0 : decode cX8_clear 0 = .ok (.aload_n 0, 1) := by decide +kernel
theorem dX8_clear_1 : decode cX8_clear 1 = .ok (.getfield 38, 3) := by decide +kernel
theorem dX8_clear_4 : decode cX8_clear 4 = .ok (.istore_n 1, 1) := by decide +kernel
theorem dX8_clear_5 : decode cX8_clear 5 = .ok (.aload_n 0, 1) := by decide +kernel
theorem dX8_clear_6 : decode cX8_clear 6 = .ok (.iconst 0, 1) := by decide +kernel
theorem dX8_clear_7 : decode cX8_clear 7 = .ok (.putfield 38, 3) := by decide +kernel
theorem dX8_clear_10 : decode cX8_clear 10 = .ok (.aload_n 0, 1) := by decide +kernel
theorem dX8_clear_11 : decode cX8_clear 11 = .ok (.getfield 22, 3) := by decide +kernel
theorem dX8_clear_14 : decode cX8_clear 14 = .ok (.iconst 0, 1) := by decide +kernel
theorem dX8_clear_15 : decode cX8_clear 15 = .ok (.iconst 1, 1) := by decide +kernel
theorem dX8_clear_16 : decode cX8_clear 16 = .ok (.iastore, 1) := by decide +kernel
theorem dX8_clear_17 : decode cX8_clear 17 = .ok (.aload_n 0, 1) := by decide +kernel
theorem dX8_clear_18 : decode cX8_clear 18 = .ok (.getfield 22, 3) := by decide +kernel
theorem dX8_clear_21 : decode cX8_clear 21 = .ok (.iconst 1, 1) := by decide +kernel
theorem dX8_clear_22 : decode cX8_clear 22 = .ok (.iconst 1, 1) := by decide +kernel
theorem dX8_clear_23 : decode cX8_clear 23 = .ok (.iastore, 1) := by decide +kernel
theorem dX8_clear_24 : decode cX8_clear 24 = .ok (.aload_n 0, 1) := by decide +kernel
theorem dX8_clear_25 : decode cX8_clear 25 = .ok (.getfield 22, 3) := by decide +kernel
theorem dX8_clear_28 : decode cX8_clear 28 = .ok (.iconst 2, 1) := by decide +kernel
theorem dX8_clear_29 : decode cX8_clear 29 = .ok (.bipush 12, 2) := by decide +kernel
theorem dX8_clear_31 : decode cX8_clear 31 = .ok (.iastore, 1) := by decide +kernel
theorem dX8_clear_32 : decode cX8_clear 32 = .ok (.aload_n 0, 1) := by decide +kernel
theorem dX8_clear_33 : decode cX8_clear 33 = .ok (.getfield 22, 3) := by decide +kernel
theorem dX8_clear_36 : decode cX8_clear 36 = .ok (.iconst 3, 1) := by decide +kernel
theorem dX8_clear_37 : decode cX8_clear 37 = .ok (.iconst 0, 1) := by decide +kernel
theorem dX8_clear_38 : decode cX8_clear 38 = .ok (.iastore, 1) := by decide +kernel
theorem dX8_clear_39 : decode cX8_clear 39 = .ok (.iload_n 1, 1) := by decide +kernel
theorem dX8_clear_40 : decode cX8_clear 40 = .ok (.ireturn, 1) := by decide +kernel
theorem dX8_isNote_0 : decode cX8_isNote 0 = .ok (.iload_n 0, 1) := by decide +kernel
theorem dX8_isNote_1 : decode cX8_isNote 1 = .ok (.ifCond .lt 28, 3) := by decide +kernel
theorem dX8_isNote_4 : decode cX8_isNote 4 = .ok (.iload_n 1, 1) := by decide +kernel
theorem dX8_isNote_5 : decode cX8_isNote 5 = .ok (.ldc 42, 2) := by decide +kernel
theorem dX8_isNote_7 : decode cX8_isNote 7 = .ok (.if_icmp .gt 22, 3) := by decide +kernel
theorem dX8_isNote_10 : decode cX8_isNote 10 = .ok (.iload_n 0, 1) := by decide +kernel
theorem dX8_isNote_11 : decode cX8_isNote 11 = .ok (.iload_n 1, 1) := by decide +kernel
theorem dX8_isNote_12 : decode cX8_isNote 12 = .ok (.if_icmp .ge 17, 3) := by decide +kernel
theorem dX8_isNote_15 : decode cX8_isNote 15 = .ok (.iload_n 2, 1) := by decide +kernel
theorem dX8_isNote_16 : decode cX8_isNote 16 = .ok (.ifCond .lt 13, 3) := by decide +kernel
theorem dX8_isNote_19 : decode cX8_isNote 19 = .ok (.iload_n 2, 1) := by decide +kernel
theorem dX8_isNote_20 : decode cX8_isNote 20 = .ok (.bipush 127, 2) := by decide +kernel
theorem dX8_isNote_22 : decode cX8_isNote 22 = .ok (.if_icmp .gt 7, 3) := by decide +kernel
theorem dX8_isNote_25 : decode cX8_isNote 25 = .ok (.iconst 1, 1) := by decide +kernel
theorem dX8_isNote_26 : decode cX8_isNote 26 = .ok (.goto 4, 3) := by decide +kernel
theorem dX8_isNote_29 : decode cX8_isNote 29 = .ok (.iconst 0, 1) := by decide +kernel
theorem dX8_isNote_30 : decode cX8_isNote 30 = .ok (.ireturn, 1) := by decide +kernel
theorem dX8_ahead_0 : decode cX8_ahead 0 = .ok (.aload_n 0, 1) := by decide +kernel
theorem dX8_ahead_1 : decode cX8_ahead 1 = .ok (.getfield 7, 3) := by decide +kernel
theorem dX8_ahead_4 : decode cX8_ahead 4 = .ok (.iload_n 1, 1) := by decide +kernel
theorem dX8_ahead_5 : decode cX8_ahead 5 = .ok (.iaload, 1) := by decide +kernel
theorem dX8_ahead_6 : decode cX8_ahead 6 = .ok (.aload_n 0, 1) := by decide +kernel
theorem dX8_ahead_7 : decode cX8_ahead 7 = .ok (.getfield 7, 3) := by decide +kernel
theorem dX8_ahead_10 : decode cX8_ahead 10 = .ok (.iload_n 2, 1) := by decide +kernel
theorem dX8_ahead_11 : decode cX8_ahead 11 = .ok (.iaload, 1) := by decide +kernel
theorem dX8_ahead_12 : decode cX8_ahead 12 = .ok (.if_icmp .eq 26, 3) := by decide +kernel
theorem dX8_ahead_15 : decode cX8_ahead 15 = .ok (.aload_n 0, 1) := by decide +kernel
theorem dX8_ahead_16 : decode cX8_ahead 16 = .ok (.getfield 7, 3) := by decide +kernel
theorem dX8_ahead_19 : decode cX8_ahead 19 = .ok (.iload_n 1, 1) := by decide +kernel
theorem dX8_ahead_20 : decode cX8_ahead 20 = .ok (.iaload, 1) := by decide +kernel
theorem dX8_ahead_21 : decode cX8_ahead 21 = .ok (.aload_n 0, 1) := by decide +kernel
theorem dX8_ahead_22 : decode cX8_ahead 22 = .ok (.getfield 7, 3) := by decide +kernel
theorem dX8_ahead_25 : decode cX8_ahead 25 = .ok (.iload_n 2, 1) := by decide +kernel
theorem dX8_ahead_26 : decode cX8_ahead 26 = .ok (.iaload, 1) := by decide +kernel
theorem dX8_ahead_27 : decode cX8_ahead 27 = .ok (.if_icmp .ge 7, 3) := by decide +kernel
theorem dX8_ahead_30 : decode cX8_ahead 30 = .ok (.iconst 1, 1) := by decide +kernel
theorem dX8_ahead_31 : decode cX8_ahead 31 = .ok (.goto 55, 3) := by decide +kernel
theorem dX8_ahead_34 : decode cX8_ahead 34 = .ok (.iconst 0, 1) := by decide +kernel
theorem dX8_ahead_35 : decode cX8_ahead 35 = .ok (.goto 51, 3) := by decide +kernel
theorem dX8_ahead_38 : decode cX8_ahead 38 = .ok (.aload_n 0, 1) := by decide +kernel
theorem dX8_ahead_39 : decode cX8_ahead 39 = .ok (.getfield 16, 3) := by decide +kernel
theorem dX8_ahead_42 : decode cX8_ahead 42 = .ok (.iload_n 1, 1) := by decide +kernel
theorem dX8_ahead_43 : decode cX8_ahead 43 = .ok (.iaload, 1) := by decide +kernel
theorem dX8_ahead_44 : decode cX8_ahead 44 = .ok (.aload_n 0, 1) := by decide +kernel
theorem dX8_ahead_45 : decode cX8_ahead 45 = .ok (.getfield 16, 3) := by decide +kernel
theorem dX8_ahead_48 : decode cX8_ahead 48 = .ok (.iload_n 2, 1) := by decide +kernel
theorem dX8_ahead_49 : decode cX8_ahead 49 = .ok (.iaload, 1) := by decide +kernel
theorem dX8_ahead_50 : decode cX8_ahead 50 = .ok (.if_icmp .eq 26, 3) := by decide +kernel
theorem dX8_ahead_53 : decode cX8_ahead 53 = .ok (.aload_n 0, 1) := by decide +kernel
theorem dX8_ahead_54 : decode cX8_ahead 54 = .ok (.getfield 16, 3) := by decide +kernel
theorem dX8_ahead_57 : decode cX8_ahead 57 = .ok (.iload_n 1, 1) := by decide +kernel
theorem dX8_ahead_58 : decode cX8_ahead 58 = .ok (.iaload, 1) := by decide +kernel
theorem dX8_ahead_59 : decode cX8_ahead 59 = .ok (.aload_n 0, 1) := by decide +kernel
theorem dX8_ahead_60 : decode cX8_ahead 60 = .ok (.getfield 16, 3) := by decide +kernel
theorem dX8_ahead_63 : decode cX8_ahead 63 = .ok (.iload_n 2, 1) := by decide +kernel
theorem dX8_ahead_64 : decode cX8_ahead 64 = .ok (.iaload, 1) := by decide +kernel
theorem dX8_ahead_65 : decode cX8_ahead 65 = .ok (.if_icmp .le 7, 3) := by decide +kernel
theorem dX8_ahead_68 : decode cX8_ahead 68 = .ok (.iconst 1, 1) := by decide +kernel
theorem dX8_ahead_69 : decode cX8_ahead 69 = .ok (.goto 17, 3) := by decide +kernel
theorem dX8_ahead_72 : decode cX8_ahead 72 = .ok (.iconst 0, 1) := by decide +kernel
theorem dX8_ahead_73 : decode cX8_ahead 73 = .ok (.goto 13, 3) := by decide +kernel
theorem dX8_ahead_76 : decode cX8_ahead 76 = .ok (.iload_n 1, 1) := by decide +kernel
theorem dX8_ahead_77 : decode cX8_ahead 77 = .ok (.iload_n 2, 1) := by decide +kernel
theorem dX8_ahead_78 : decode cX8_ahead 78 = .ok (.if_icmp .ge 7, 3) := by decide +kernel
theorem dX8_ahead_81 : decode cX8_ahead 81 = .ok (.iconst 1, 1) := by decide +kernel
theorem dX8_ahead_82 : decode cX8_ahead 82 = .ok (.goto 4, 3) := by decide +kernel
theorem dX8_ahead_85 : decode cX8_ahead 85 = .ok (.iconst 0, 1) := by decide +kernel
theorem dX8_ahead_86 : decode cX8_ahead 86 = .ok (.ireturn, 1) := by decide +kernel
set_option maxRecDepth 20000 in
theorem ggX8_rank_X8_ahead : GoodIn wsX8_rank wsX8_ahead := goodIn_r _ [6, 7, 8, 9, 10, 11, 12, 13, 14, 15, 16, 17, 18] (by decide +kernel) (by decide +kernel)
set_option maxRecDepth 20000 in
theorem gX8_rank_X8_ahead : GoodIn wsX8_rank (wsV RX8 43 RX8 yX8_ahead wsX8_ahead) := goodIn_app (goodIn_of _ (by decide +kernel)) ggX8_rank_X8_ahead
theorem dX8_rank_0 : decode cX8_rank 0 = .ok (.iconst 0, 1) := by decide +kernel
theorem dX8_rank_1 : decode cX8_rank 1 = .ok (.istore_n 2, 1) := by decide +kernel
theorem dX8_rank_2 : decode cX8_rank 2 = .ok (.iconst 0, 1) := by decide +kernel
theorem dX8_rank_3 : decode cX8_rank 3 = .ok (.istore_n 3, 1) := by decide +kernel
theorem dX8_rank_4 : decode cX8_rank 4 = .ok (.iload_n 3, 1) := by decide +kernel
theorem dX8_rank_5 : decode cX8_rank 5 = .ok (.aload_n 0, 1) := by decide +kernel
theorem dX8_rank_6 : decode cX8_rank 6 = .ok (.getfield 38, 3) := by decide +kernel
theorem dX8_rank_9 : decode cX8_rank 9 = .ok (.if_icmp .ge 31, 3) := by decide +kernel
theorem dX8_rank_12 : decode cX8_rank 12 = .ok (.iload_n 2, 1) := by decide +kernel
theorem dX8_rank_13 : decode cX8_rank 13 = .ok (.iload_n 3, 1) := by decide +kernel
theorem dX8_rank_14 : decode cX8_rank 14 = .ok (.iload_n 1, 1) := by decide +kernel
theorem dX8_rank_15 : decode cX8_rank 15 = .ok (.if_icmp .eq 16, 3) := by decide +kernel
theorem dX8_rank_18 : decode cX8_rank 18 = .ok (.aload_n 0, 1) := by decide +kernel
theorem dX8_rank_19 : decode cX8_rank 19 = .ok (.iload_n 3, 1) := by decide +kernel
theorem dX8_rank_20 : decode cX8_rank 20 = .ok (.iload_n 1, 1) := by decide +kernel
theorem dX8_rank_21 : decode cX8_rank 21 = .ok (.invokevirtual 43, 3) := by decide +kernel
theorem dX8_rank_24 : decode cX8_rank 24 = .ok (.ifCond .eq 7, 3) := by decide +kernel
theorem dX8_rank_27 : decode cX8_rank 27 = .ok (.iconst 1, 1) := by decide +kernel
theorem dX8_rank_28 : decode cX8_rank 28 = .ok (.goto 4, 3) := by decide +kernel
theorem dX8_rank_31 : decode cX8_rank 31 = .ok (.iconst 0, 1) := by decide +kernel
theorem dX8_rank_32 : decode cX8_rank 32 = .ok (.iadd, 1) := by decide +kernel
theorem dX8_rank_33 : decode cX8_rank 33 = .ok (.istore_n 2, 1) := by decide +kernel
theorem dX8_rank_34 : decode cX8_rank 34 = .ok (.iinc 3 1, 3) := by decide +kernel
theorem dX8_rank_37 : decode cX8_rank 37 = .ok (.goto (-33), 3) := by decide +kernel
theorem dX8_rank_40 : decode cX8_rank 40 = .ok (.iload_n 2, 1) := by decide +kernel
theorem dX8_rank_41 : decode cX8_rank 41 = .ok (.ireturn, 1) := by decide +kernel
set_option maxRecDepth 20000 in
theorem ggX8_sort_X8_rank : GoodIn wsX8_sort wsX8_rank := goodIn_r _ [7, 1, 8, 9, 10, 6, 11, 12, 13, 14, 15, 16, 17, 18, 19, 20, 21, 22, 23] (by decide +kernel) (by decide +kernel)
set_option maxRecDepth 20000 in
theorem gX8_sort_X8_rank : GoodIn wsX8_sort (wsV RX8 47 RX8 yX8_rank wsX8_rank) := goodIn_app (goodIn_of _ (by decide +kernel)) ggX8_sort_X8_rank
theorem dX8_sort_0 : decode cX8_sort 0 = .ok (.iconst 0, 1) := by decide +kernel
theorem dX8_sort_1 : decode cX8_sort 1 = .ok (.istore_n 1, 1) := by decide +kernel
theorem dX8_sort_2 : decode cX8_sort 2 = .ok (.iload_n 1, 1) := by decide +kernel
theorem dX8_sort_3 : decode cX8_sort 3 = .ok (.aload_n 0, 1) := by decide +kernel
theorem dX8_sort_4 : decode cX8_sort 4 = .ok (.getfield 38, 3) := by decide +kernel
theorem dX8_sort_7 : decode cX8_sort 7 = .ok (.if_icmp .ge 20, 3) := by decide +kernel
theorem dX8_sort_10 : decode cX8_sort 10 = .ok (.aload_n 0, 1) := by decide +kernel
theorem dX8_sort_11 : decode cX8_sort 11 = .ok (.getfield 25, 3) := by decide +kernel
theorem dX8_sort_14 : decode cX8_sort 14 = .ok (.aload_n 0, 1) := by decide +kernel
theorem dX8_sort_15 : decode cX8_sort 15 = .ok (.iload_n 1, 1) := by decide +kernel
theorem dX8_sort_16 : decode cX8_sort 16 = .ok (.invokevirtual 47, 3) := by decide +kernel
theorem dX8_sort_19 : decode cX8_sort 19 = .ok (.iload_n 1, 1) := by decide +kernel
theorem dX8_sort_20 : decode cX8_sort 20 = .ok (.iastore, 1) := by decide +kernel
theorem dX8_sort_21 : decode cX8_sort 21 = .ok (.iinc 1 1, 3) := by decide +kernel
theorem dX8_sort_24 : decode cX8_sort 24 = .ok (.goto (-22), 3) := by decide +kernel
theorem dX8_sort_27 : decode cX8_sort 27 = .ok (.return_, 1) := by decide +kernel
theorem dX8_together_0 : decode cX8_together 0 = .ok (.aload_n 0, 1) := by decide +kernel
theorem dX8_together_1 : decode cX8_together 1 = .ok (.getfield 7, 3) := by decide +kernel
theorem dX8_together_4 : decode cX8_together 4 = .ok (.iload_n 1, 1) := by decide +kernel
theorem dX8_together_5 : decode cX8_together 5 = .ok (.iaload, 1) := by decide +kernel
theorem dX8_together_6 : decode cX8_together 6 = .ok (.aload_n 0, 1) := by decide +kernel
theorem dX8_together_7 : decode cX8_together 7 = .ok (.getfield 13, 3) := by decide +kernel
theorem dX8_together_10 : decode cX8_together 10 = .ok (.iload_n 2, 1) := by decide +kernel
theorem dX8_together_11 : decode cX8_together 11 = .ok (.iaload, 1) := by decide +kernel
theorem dX8_together_12 : decode cX8_together 12 = .ok (.if_icmp .ge 22, 3) := by decide +kernel
theorem dX8_together_15 : decode cX8_together 15 = .ok (.aload_n 0, 1) := by decide +kernel
theorem dX8_together_16 : decode cX8_together 16 = .ok (.getfield 7, 3) := by decide +kernel
theorem dX8_together_19 : decode cX8_together 19 = .ok (.iload_n 2, 1) := by decide +kernel
theorem dX8_together_20 : decode cX8_together 20 = .ok (.iaload, 1) := by decide +kernel
theorem dX8_together_21 : decode cX8_together 21 = .ok (.aload_n 0, 1) := by decide +kernel
theorem dX8_together_22 : decode cX8_together 22 = .ok (.getfield 13, 3) := by decide +kernel
theorem dX8_together_25 : decode cX8_together 25 = .ok (.iload_n 1, 1) := by decide +kernel
theorem dX8_together_26 : decode cX8_together 26 = .ok (.iaload, 1) := by decide +kernel
theorem dX8_together_27 : decode cX8_together 27 = .ok (.if_icmp .ge 7, 3) := by decide +kernel
theorem dX8_together_30 : decode cX8_together 30 = .ok (.iconst 1, 1) := by decide +kernel
theorem dX8_together_31 : decode cX8_together 31 = .ok (.goto 4, 3) := by decide +kernel
theorem dX8_together_34 : decode cX8_together 34 = .ok (.iconst 0, 1) := by decide +kernel
theorem dX8_together_35 : decode cX8_together 35 = .ok (.ireturn, 1) := by decide +kernel
set_option maxRecDepth 20000 in
theorem ggX8_note_X8_isNote : GoodIn wsX8_note wsX8_isNote := goodIn_r _ [9, 10] (by decide +kernel) (by decide +kernel)
set_option maxRecDepth 20000 in
theorem gX8_note_X8_isNote : GoodIn wsX8_note (va_wsS RX8 51 yX8_isNote wsX8_isNote) := goodIn_app (goodIn_of _ (by decide +kernel)) ggX8_note_X8_isNote
set_option maxRecDepth 20000 in
theorem ggX8_note_X8_sort : GoodIn wsX8_note wsX8_sort := goodIn_r _ [14, 1, 15, 16, 17, 18, 8, 19, 20, 21, 22, 23, 2, 4, 24, 25, 26, 27, 28, 29, 30, 31, 32, 33] (by decide +kernel) (by decide +kernel)
set_option maxRecDepth 20000 in
theorem gX8_note_X8_sort : GoodIn wsX8_note (wsV RX8 55 RX8 yX8_sort wsX8_sort) := goodIn_app (goodIn_of _ (by decide +kernel)) ggX8_note_X8_sort
theorem dX8_note_0 : decode cX8_note 0 = .ok (.iload_n 1, 1) := by decide +kernel
theorem dX8_note_1 : decode cX8_note 1 = .ok (.iload_n 2, 1) := by decide +kernel
theorem dX8_note_2 : decode cX8_note 2 = .ok (.iload_n 3, 1) := by decide +kernel
theorem dX8_note_3 : decode cX8_note 3 = .ok (.invokestatic 51, 3) := by decide +kernel
theorem dX8_note_6 : decode cX8_note 6 = .ok (.ifCond .ne 6, 3) := by decide +kernel
theorem dX8_note_9 : decode cX8_note 9 = .ok (.bipush (-2), 2) := by decide +kernel
theorem dX8_note_11 : decode cX8_note 11 = .ok (.ireturn, 1) := by decide +kernel
theorem dX8_note_12 : decode cX8_note 12 = .ok (.aload_n 0, 1) := by decide +kernel
theorem dX8_note_13 : decode cX8_note 13 = .ok (.getfield 38, 3) := by decide +kernel
theorem dX8_note_16 : decode cX8_note 16 = .ok (.bipush 60, 2) := by decide +kernel
theorem dX8_note_18 : decode cX8_note 18 = .ok (.if_icmp .ne 6, 3) := by decide +kernel
theorem dX8_note_21 : decode cX8_note 21 = .ok (.bipush (-4), 2) := by decide +kernel
theorem dX8_note_23 : decode cX8_note 23 = .ok (.ireturn, 1) := by decide +kernel
theorem dX8_note_24 : decode cX8_note 24 = .ok (.aload_n 0, 1) := by decide +kernel
theorem dX8_note_25 : decode cX8_note 25 = .ok (.getfield 7, 3) := by decide +kernel
theorem dX8_note_28 : decode cX8_note 28 = .ok (.aload_n 0, 1) := by decide +kernel
theorem dX8_note_29 : decode cX8_note 29 = .ok (.getfield 38, 3) := by decide +kernel
theorem dX8_note_32 : decode cX8_note 32 = .ok (.iload_n 1, 1) := by decide +kernel
theorem dX8_note_33 : decode cX8_note 33 = .ok (.iastore, 1) := by decide +kernel
theorem dX8_note_34 : decode cX8_note 34 = .ok (.aload_n 0, 1) := by decide +kernel
theorem dX8_note_35 : decode cX8_note 35 = .ok (.getfield 13, 3) := by decide +kernel
theorem dX8_note_38 : decode cX8_note 38 = .ok (.aload_n 0, 1) := by decide +kernel
theorem dX8_note_39 : decode cX8_note 39 = .ok (.getfield 38, 3) := by decide +kernel
theorem dX8_note_42 : decode cX8_note 42 = .ok (.iload_n 2, 1) := by decide +kernel
theorem dX8_note_43 : decode cX8_note 43 = .ok (.iastore, 1) := by decide +kernel
theorem dX8_note_44 : decode cX8_note 44 = .ok (.aload_n 0, 1) := by decide +kernel
theorem dX8_note_45 : decode cX8_note 45 = .ok (.getfield 16, 3) := by decide +kernel
theorem dX8_note_48 : decode cX8_note 48 = .ok (.aload_n 0, 1) := by decide +kernel
theorem dX8_note_49 : decode cX8_note 49 = .ok (.getfield 38, 3) := by decide +kernel
theorem dX8_note_52 : decode cX8_note 52 = .ok (.iload_n 3, 1) := by decide +kernel
theorem dX8_note_53 : decode cX8_note 53 = .ok (.iastore, 1) := by decide +kernel
theorem dX8_note_54 : decode cX8_note 54 = .ok (.aload_n 0, 1) := by decide +kernel
theorem dX8_note_55 : decode cX8_note 55 = .ok (.getfield 19, 3) := by decide +kernel
theorem dX8_note_58 : decode cX8_note 58 = .ok (.aload_n 0, 1) := by decide +kernel
theorem dX8_note_59 : decode cX8_note 59 = .ok (.getfield 38, 3) := by decide +kernel
theorem dX8_note_62 : decode cX8_note 62 = .ok (.iconst (-1), 1) := by decide +kernel
theorem dX8_note_63 : decode cX8_note 63 = .ok (.iastore, 1) := by decide +kernel
theorem dX8_note_64 : decode cX8_note 64 = .ok (.aload_n 0, 1) := by decide +kernel
theorem dX8_note_65 : decode cX8_note 65 = .ok (.dup, 1) := by decide +kernel
theorem dX8_note_66 : decode cX8_note 66 = .ok (.getfield 38, 3) := by decide +kernel
theorem dX8_note_69 : decode cX8_note 69 = .ok (.iconst 1, 1) := by decide +kernel
theorem dX8_note_70 : decode cX8_note 70 = .ok (.iadd, 1) := by decide +kernel
theorem dX8_note_71 : decode cX8_note 71 = .ok (.putfield 38, 3) := by decide +kernel
theorem dX8_note_74 : decode cX8_note 74 = .ok (.aload_n 0, 1) := by decide +kernel
theorem dX8_note_75 : decode cX8_note 75 = .ok (.invokevirtual 55, 3) := by decide +kernel
theorem dX8_note_78 : decode cX8_note 78 = .ok (.aload_n 0, 1) := by decide +kernel
theorem dX8_note_79 : decode cX8_note 79 = .ok (.getfield 38, 3) := by decide +kernel
theorem dX8_note_82 : decode cX8_note 82 = .ok (.iconst 1, 1) := by decide +kernel
theorem dX8_note_83 : decode cX8_note 83 = .ok (.isub, 1) := by decide +kernel
theorem dX8_note_84 : decode cX8_note 84 = .ok (.ireturn, 1) := by decide +kernel
set_option maxRecDepth 20000 in
theorem ggX8_move_X8_isNote : GoodIn wsX8_move wsX8_isNote := goodIn_r _ [8, 9] (by decide +kernel) (by decide +kernel)
set_option maxRecDepth 20000 in
theorem gX8_move_X8_isNote : GoodIn wsX8_move (va_wsS RX8 51 yX8_isNote wsX8_isNote) := goodIn_app (goodIn_of _ (by decide +kernel)) ggX8_move_X8_isNote
set_option maxRecDepth 20000 in
theorem ggX8_move_X8_sort : GoodIn wsX8_move wsX8_sort := goodIn_r _ [13, 1, 14, 15, 16, 17, 7, 18, 19, 20, 21, 22, 2, 4, 23, 24, 25, 26, 27, 28, 29, 30, 31, 32] (by decide +kernel) (by decide +kernel)
set_option maxRecDepth 20000 in
theorem gX8_move_X8_sort : GoodIn wsX8_move (wsV RX8 55 RX8 yX8_sort wsX8_sort) := goodIn_app (goodIn_of _ (by decide +kernel)) ggX8_move_X8_sort
theorem dX8_move_0 : decode cX8_move 0 = .ok (.iload_n 1, 1) := by decide +kernel
theorem dX8_move_1 : decode cX8_move 1 = .ok (.ifCond .lt 21, 3) := by decide +kernel
theorem dX8_move_4 : decode cX8_move 4 = .ok (.iload_n 1, 1) := by decide +kernel
theorem dX8_move_5 : decode cX8_move 5 = .ok (.aload_n 0, 1) := by decide +kernel
theorem dX8_move_6 : decode cX8_move 6 = .ok (.getfield 38, 3) := by decide +kernel
theorem dX8_move_9 : decode cX8_move 9 = .ok (.if_icmp .ge 13, 3) := by decide +kernel
theorem dX8_move_12 : decode cX8_move 12 = .ok (.iload_n 2, 1) := by decide +kernel
theorem dX8_move_13 : decode cX8_move 13 = .ok (.iload_n 3, 1) := by decide +kernel
theorem dX8_move_14 : decode cX8_move 14 = .ok (.iload 4, 2) := by decide +kernel
theorem dX8_move_16 : decode cX8_move 16 = .ok (.invokestatic 51, 3) := by decide +kernel
theorem dX8_move_19 : decode cX8_move 19 = .ok (.ifCond .ne 6, 3) := by decide +kernel
theorem dX8_move_22 : decode cX8_move 22 = .ok (.bipush (-2), 2) := by decide +kernel
theorem dX8_move_24 : decode cX8_move 24 = .ok (.ireturn, 1) := by decide +kernel
theorem dX8_move_25 : decode cX8_move 25 = .ok (.aload_n 0, 1) := by decide +kernel
theorem dX8_move_26 : decode cX8_move 26 = .ok (.getfield 7, 3) := by decide +kernel
theorem dX8_move_29 : decode cX8_move 29 = .ok (.iload_n 1, 1) := by decide +kernel
theorem dX8_move_30 : decode cX8_move 30 = .ok (.iload_n 2, 1) := by decide +kernel
theorem dX8_move_31 : decode cX8_move 31 = .ok (.iastore, 1) := by decide +kernel
theorem dX8_move_32 : decode cX8_move 32 = .ok (.aload_n 0, 1) := by decide +kernel
theorem dX8_move_33 : decode cX8_move 33 = .ok (.getfield 13, 3) := by decide +kernel
theorem dX8_move_36 : decode cX8_move 36 = .ok (.iload_n 1, 1) := by decide +kernel
theorem dX8_move_37 : decode cX8_move 37 = .ok (.iload_n 3, 1) := by decide +kernel
theorem dX8_move_38 : decode cX8_move 38 = .ok (.iastore, 1) := by decide +kernel
theorem dX8_move_39 : decode cX8_move 39 = .ok (.aload_n 0, 1) := by decide +kernel
theorem dX8_move_40 : decode cX8_move 40 = .ok (.getfield 16, 3) := by decide +kernel
theorem dX8_move_43 : decode cX8_move 43 = .ok (.iload_n 1, 1) := by decide +kernel
theorem dX8_move_44 : decode cX8_move 44 = .ok (.iload 4, 2) := by decide +kernel
theorem dX8_move_46 : decode cX8_move 46 = .ok (.iastore, 1) := by decide +kernel
theorem dX8_move_47 : decode cX8_move 47 = .ok (.aload_n 0, 1) := by decide +kernel
theorem dX8_move_48 : decode cX8_move 48 = .ok (.invokevirtual 55, 3) := by decide +kernel
theorem dX8_move_51 : decode cX8_move 51 = .ok (.iconst 1, 1) := by decide +kernel
theorem dX8_move_52 : decode cX8_move 52 = .ok (.ireturn, 1) := by decide +kernel
theorem dX8_weigh_0 : decode cX8_weigh 0 = .ok (.iload_n 1, 1) := by decide +kernel
theorem dX8_weigh_1 : decode cX8_weigh 1 = .ok (.ifCond .lt 19, 3) := by decide +kernel
theorem dX8_weigh_4 : decode cX8_weigh 4 = .ok (.iload_n 1, 1) := by decide +kernel
theorem dX8_weigh_5 : decode cX8_weigh 5 = .ok (.iconst 3, 1) := by decide +kernel
theorem dX8_weigh_6 : decode cX8_weigh 6 = .ok (.if_icmp .gt 14, 3) := by decide +kernel
theorem dX8_weigh_9 : decode cX8_weigh 9 = .ok (.iload_n 2, 1) := by decide +kernel
theorem dX8_weigh_10 : decode cX8_weigh 10 = .ok (.ifCond .lt 10, 3) := by decide +kernel
theorem dX8_weigh_13 : decode cX8_weigh 13 = .ok (.iload_n 2, 1) := by decide +kernel
theorem dX8_weigh_14 : decode cX8_weigh 14 = .ok (.sipush 1000, 3) := by decide +kernel
theorem dX8_weigh_17 : decode cX8_weigh 17 = .ok (.if_icmp .le 6, 3) := by decide +kernel
theorem dX8_weigh_20 : decode cX8_weigh 20 = .ok (.bipush (-2), 2) := by decide +kernel
theorem dX8_weigh_22 : decode cX8_weigh 22 = .ok (.ireturn, 1) := by decide +kernel
theorem dX8_weigh_23 : decode cX8_weigh 23 = .ok (.aload_n 0, 1) := by decide +kernel
theorem dX8_weigh_24 : decode cX8_weigh 24 = .ok (.getfield 22, 3) := by decide +kernel
theorem dX8_weigh_27 : decode cX8_weigh 27 = .ok (.iload_n 1, 1) := by decide +kernel
theorem dX8_weigh_28 : decode cX8_weigh 28 = .ok (.iaload, 1) := by decide +kernel
theorem dX8_weigh_29 : decode cX8_weigh 29 = .ok (.istore_n 3, 1) := by decide +kernel
theorem dX8_weigh_30 : decode cX8_weigh 30 = .ok (.aload_n 0, 1) := by decide +kernel
theorem dX8_weigh_31 : decode cX8_weigh 31 = .ok (.getfield 22, 3) := by decide +kernel
theorem dX8_weigh_34 : decode cX8_weigh 34 = .ok (.iload_n 1, 1) := by decide +kernel
theorem dX8_weigh_35 : decode cX8_weigh 35 = .ok (.iload_n 2, 1) := by decide +kernel
theorem dX8_weigh_36 : decode cX8_weigh 36 = .ok (.iastore, 1) := by decide +kernel
theorem dX8_weigh_37 : decode cX8_weigh 37 = .ok (.iload_n 3, 1) := by decide +kernel
theorem dX8_weigh_38 : decode cX8_weigh 38 = .ok (.ireturn, 1) := by decide +kernel
theorem dX8_put_0 : decode cX8_put 0 = .ok (.iload_n 1, 1) := by decide +kernel
theorem dX8_put_1 : decode cX8_put 1 = .ok (.ifCond .lt 21, 3) := by decide +kernel
theorem dX8_put_4 : decode cX8_put 4 = .ok (.iload_n 1, 1) := by decide +kernel
theorem dX8_put_5 : decode cX8_put 5 = .ok (.aload_n 0, 1) := by decide +kernel
theorem dX8_put_6 : decode cX8_put 6 = .ok (.getfield 38, 3) := by decide +kernel
theorem dX8_put_9 : decode cX8_put 9 = .ok (.if_icmp .ge 13, 3) := by decide +kernel
theorem dX8_put_12 : decode cX8_put 12 = .ok (.iload_n 2, 1) := by decide +kernel
theorem dX8_put_13 : decode cX8_put 13 = .ok (.iconst (-1), 1) := by decide +kernel
theorem dX8_put_14 : decode cX8_put 14 = .ok (.if_icmp .lt 8, 3) := by decide +kernel
theorem dX8_put_17 : decode cX8_put 17 = .ok (.iload_n 2, 1) := by decide +kernel
theorem dX8_put_18 : decode cX8_put 18 = .ok (.iconst 4, 1) := by decide +kernel
theorem dX8_put_19 : decode cX8_put 19 = .ok (.if_icmp .lt 6, 3) := by decide +kernel
end
section
theorem dX8_put_22 : decode cX8_put 22 = .ok (.bipush (-2), 2) := by decide +kernel
theorem dX8_put_24 : decode cX8_put 24 = .ok (.ireturn, 1) := by decide +kernel
theorem dX8_put_25 : decode cX8_put 25 = .ok (.aload_n 0, 1) := by decide +kernel
theorem dX8_put_26 : decode cX8_put 26 = .ok (.getfield 19, 3) := by decide +kernel
theorem dX8_put_29 : decode cX8_put 29 = .ok (.iload_n 1, 1) := by decide +kernel
theorem dX8_put_30 : decode cX8_put 30 = .ok (.iaload, 1) := by decide +kernel
theorem dX8_put_31 : decode cX8_put 31 = .ok (.istore_n 3, 1) := by decide +kernel
theorem dX8_put_32 : decode cX8_put 32 = .ok (.aload_n 0, 1) := by decide +kernel
theorem dX8_put_33 : decode cX8_put 33 = .ok (.getfield 19, 3) := by decide +kernel
theorem dX8_put_36 : decode cX8_put 36 = .ok (.iload_n 1, 1) := by decide +kernel
theorem dX8_put_37 : decode cX8_put 37 = .ok (.iload_n 2, 1) := by decide +kernel
theorem dX8_put_38 : decode cX8_put 38 = .ok (.iastore, 1) := by decide +kernel
theorem dX8_put_39 : decode cX8_put 39 = .ok (.iload_n 3, 1) := by decide +kernel
theorem dX8_put_40 : decode cX8_put 40 = .ok (.ireturn, 1) := by decide +kernel
theorem dX8_place_0 : decode cX8_place 0 = .ok (.iload_n 1, 1) := by decide +kernel
theorem dX8_place_1 : decode cX8_place 1 = .ok (.ldc 58, 2) := by decide +kernel
theorem dX8_place_3 : decode cX8_place 3 = .ok (.imul, 1) := by decide +kernel
theorem dX8_place_4 : decode cX8_place 4 = .ok (.aload_n 0, 1) := by decide +kernel
theorem dX8_place_5 : decode cX8_place 5 = .ok (.getfield 31, 3) := by decide +kernel
theorem dX8_place_8 : decode cX8_place 8 = .ok (.iconst 0, 1) := by decide +kernel
theorem dX8_place_9 : decode cX8_place 9 = .ok (.iaload, 1) := by decide +kernel
theorem dX8_place_10 : decode cX8_place 10 = .ok (.bipush 15, 2) := by decide +kernel
theorem dX8_place_12 : decode cX8_place 12 = .ok (.imul, 1) := by decide +kernel
theorem dX8_place_13 : decode cX8_place 13 = .ok (.aload_n 0, 1) := by decide +kernel
theorem dX8_place_14 : decode cX8_place 14 = .ok (.getfield 31, 3) := by decide +kernel
theorem dX8_place_17 : decode cX8_place 17 = .ok (.iconst 1, 1) := by decide +kernel
theorem dX8_place_18 : decode cX8_place 18 = .ok (.iaload, 1) := by decide +kernel
theorem dX8_place_19 : decode cX8_place 19 = .ok (.iadd, 1) := by decide +kernel
theorem dX8_place_20 : decode cX8_place 20 = .ok (.bipush 15, 2) := by decide +kernel
theorem dX8_place_22 : decode cX8_place 22 = .ok (.imul, 1) := by decide +kernel
theorem dX8_place_23 : decode cX8_place 23 = .ok (.aload_n 0, 1) := by decide +kernel
theorem dX8_place_24 : decode cX8_place 24 = .ok (.getfield 31, 3) := by decide +kernel
theorem dX8_place_27 : decode cX8_place 27 = .ok (.iconst 2, 1) := by decide +kernel
theorem dX8_place_28 : decode cX8_place 28 = .ok (.iaload, 1) := by decide +kernel
theorem dX8_place_29 : decode cX8_place 29 = .ok (.iadd, 1) := by decide +kernel
theorem dX8_place_30 : decode cX8_place 30 = .ok (.bipush 15, 2) := by decide +kernel
theorem dX8_place_32 : decode cX8_place 32 = .ok (.imul, 1) := by decide +kernel
theorem dX8_place_33 : decode cX8_place 33 = .ok (.iadd, 1) := by decide +kernel
theorem dX8_place_34 : decode cX8_place 34 = .ok (.aload_n 0, 1) := by decide +kernel
theorem dX8_place_35 : decode cX8_place 35 = .ok (.getfield 31, 3) := by decide +kernel
theorem dX8_place_38 : decode cX8_place 38 = .ok (.iconst 3, 1) := by decide +kernel
theorem dX8_place_39 : decode cX8_place 39 = .ok (.iaload, 1) := by decide +kernel
theorem dX8_place_40 : decode cX8_place 40 = .ok (.iadd, 1) := by decide +kernel
theorem dX8_place_41 : decode cX8_place 41 = .ok (.ireturn, 1) := by decide +kernel
set_option maxRecDepth 20000 in
theorem ggX8_price_X8_together : GoodIn wsX8_price wsX8_together := goodIn_r _ [12, 6, 7, 13, 14, 15, 16, 17, 18, 19, 20, 21, 22] (by decide +kernel) (by decide +kernel)
set_option maxRecDepth 20000 in
theorem gX8_price_X8_together : GoodIn wsX8_price (wsV RX8 59 RX8 yX8_together wsX8_together) := goodIn_app (goodIn_of _ (by decide +kernel)) ggX8_price_X8_together
theorem dX8_price_0 : decode cX8_price 0 = .ok (.aload_n 0, 1) := by decide +kernel
theorem dX8_price_1 : decode cX8_price 1 = .ok (.getfield 25, 3) := by decide +kernel
theorem dX8_price_4 : decode cX8_price 4 = .ok (.iload_n 1, 1) := by decide +kernel
theorem dX8_price_5 : decode cX8_price 5 = .ok (.iaload, 1) := by decide +kernel
theorem dX8_price_6 : decode cX8_price 6 = .ok (.istore_n 3, 1) := by decide +kernel
theorem dX8_price_7 : decode cX8_price 7 = .ok (.aload_n 0, 1) := by decide +kernel
theorem dX8_price_8 : decode cX8_price 8 = .ok (.getfield 22, 3) := by decide +kernel
theorem dX8_price_11 : decode cX8_price 11 = .ok (.iconst 3, 1) := by decide +kernel
theorem dX8_price_12 : decode cX8_price 12 = .ok (.iaload, 1) := by decide +kernel
theorem dX8_price_13 : decode cX8_price 13 = .ok (.istore 4, 2) := by decide +kernel
theorem dX8_price_15 : decode cX8_price 15 = .ok (.aload_n 0, 1) := by decide +kernel
theorem dX8_price_16 : decode cX8_price 16 = .ok (.getfield 31, 3) := by decide +kernel
theorem dX8_price_19 : decode cX8_price 19 = .ok (.iload_n 2, 1) := by decide +kernel
theorem dX8_price_20 : decode cX8_price 20 = .ok (.iaload, 1) := by decide +kernel
theorem dX8_price_21 : decode cX8_price 21 = .ok (.ifCond .le 113, 3) := by decide +kernel
theorem dX8_price_24 : decode cX8_price 24 = .ok (.aload_n 0, 1) := by decide +kernel
theorem dX8_price_25 : decode cX8_price 25 = .ok (.getfield 25, 3) := by decide +kernel
theorem dX8_price_28 : decode cX8_price 28 = .ok (.aload_n 0, 1) := by decide +kernel
theorem dX8_price_29 : decode cX8_price 29 = .ok (.getfield 31, 3) := by decide +kernel
theorem dX8_price_32 : decode cX8_price 32 = .ok (.iload_n 2, 1) := by decide +kernel
theorem dX8_price_33 : decode cX8_price 33 = .ok (.iaload, 1) := by decide +kernel
theorem dX8_price_34 : decode cX8_price 34 = .ok (.iconst 1, 1) := by decide +kernel
theorem dX8_price_35 : decode cX8_price 35 = .ok (.isub, 1) := by decide +kernel
theorem dX8_price_36 : decode cX8_price 36 = .ok (.iaload, 1) := by decide +kernel
theorem dX8_price_37 : decode cX8_price 37 = .ok (.istore 5, 2) := by decide +kernel
theorem dX8_price_39 : decode cX8_price 39 = .ok (.aload_n 0, 1) := by decide +kernel
theorem dX8_price_40 : decode cX8_price 40 = .ok (.iload 5, 2) := by decide +kernel
theorem dX8_price_42 : decode cX8_price 42 = .ok (.iload_n 3, 1) := by decide +kernel
theorem dX8_price_43 : decode cX8_price 43 = .ok (.invokevirtual 59, 3) := by decide +kernel
theorem dX8_price_46 : decode cX8_price 46 = .ok (.ifCond .eq 6, 3) := by decide +kernel
theorem dX8_price_49 : decode cX8_price 49 = .ok (.ldc 62, 2) := by decide +kernel
theorem dX8_price_51 : decode cX8_price 51 = .ok (.ireturn, 1) := by decide +kernel
theorem dX8_price_52 : decode cX8_price 52 = .ok (.aload_n 0, 1) := by decide +kernel
theorem dX8_price_53 : decode cX8_price 53 = .ok (.getfield 16, 3) := by decide +kernel
theorem dX8_price_56 : decode cX8_price 56 = .ok (.iload_n 3, 1) := by decide +kernel
theorem dX8_price_57 : decode cX8_price 57 = .ok (.iaload, 1) := by decide +kernel
theorem dX8_price_58 : decode cX8_price 58 = .ok (.aload_n 0, 1) := by decide +kernel
theorem dX8_price_59 : decode cX8_price 59 = .ok (.getfield 16, 3) := by decide +kernel
theorem dX8_price_62 : decode cX8_price 62 = .ok (.iload 5, 2) := by decide +kernel
theorem dX8_price_64 : decode cX8_price 64 = .ok (.iaload, 1) := by decide +kernel
theorem dX8_price_65 : decode cX8_price 65 = .ok (.if_icmp .le 20, 3) := by decide +kernel
theorem dX8_price_68 : decode cX8_price 68 = .ok (.aload_n 0, 1) := by decide +kernel
theorem dX8_price_69 : decode cX8_price 69 = .ok (.getfield 16, 3) := by decide +kernel
theorem dX8_price_72 : decode cX8_price 72 = .ok (.iload_n 3, 1) := by decide +kernel
theorem dX8_price_73 : decode cX8_price 73 = .ok (.iaload, 1) := by decide +kernel
theorem dX8_price_74 : decode cX8_price 74 = .ok (.aload_n 0, 1) := by decide +kernel
theorem dX8_price_75 : decode cX8_price 75 = .ok (.getfield 16, 3) := by decide +kernel
theorem dX8_price_78 : decode cX8_price 78 = .ok (.iload 5, 2) := by decide +kernel
theorem dX8_price_80 : decode cX8_price 80 = .ok (.iaload, 1) := by decide +kernel
theorem dX8_price_81 : decode cX8_price 81 = .ok (.isub, 1) := by decide +kernel
theorem dX8_price_82 : decode cX8_price 82 = .ok (.goto 17, 3) := by decide +kernel
theorem dX8_price_85 : decode cX8_price 85 = .ok (.aload_n 0, 1) := by decide +kernel
theorem dX8_price_86 : decode cX8_price 86 = .ok (.getfield 16, 3) := by decide +kernel
theorem dX8_price_89 : decode cX8_price 89 = .ok (.iload 5, 2) := by decide +kernel
theorem dX8_price_91 : decode cX8_price 91 = .ok (.iaload, 1) := by decide +kernel
theorem dX8_price_92 : decode cX8_price 92 = .ok (.aload_n 0, 1) := by decide +kernel
theorem dX8_price_93 : decode cX8_price 93 = .ok (.getfield 16, 3) := by decide +kernel
theorem dX8_price_96 : decode cX8_price 96 = .ok (.iload_n 3, 1) := by decide +kernel
theorem dX8_price_97 : decode cX8_price 97 = .ok (.iaload, 1) := by decide +kernel
theorem dX8_price_98 : decode cX8_price 98 = .ok (.isub, 1) := by decide +kernel
theorem dX8_price_99 : decode cX8_price 99 = .ok (.istore 6, 2) := by decide +kernel
theorem dX8_price_101 : decode cX8_price 101 = .ok (.iload 6, 2) := by decide +kernel
theorem dX8_price_103 : decode cX8_price 103 = .ok (.aload_n 0, 1) := by decide +kernel
theorem dX8_price_104 : decode cX8_price 104 = .ok (.getfield 22, 3) := by decide +kernel
theorem dX8_price_107 : decode cX8_price 107 = .ok (.iconst 0, 1) := by decide +kernel
theorem dX8_price_108 : decode cX8_price 108 = .ok (.iaload, 1) := by decide +kernel
theorem dX8_price_109 : decode cX8_price 109 = .ok (.imul, 1) := by decide +kernel
theorem dX8_price_110 : decode cX8_price 110 = .ok (.aload_n 0, 1) := by decide +kernel
theorem dX8_price_111 : decode cX8_price 111 = .ok (.getfield 7, 3) := by decide +kernel
theorem dX8_price_114 : decode cX8_price 114 = .ok (.iload_n 3, 1) := by decide +kernel
theorem dX8_price_115 : decode cX8_price 115 = .ok (.iaload, 1) := by decide +kernel
theorem dX8_price_116 : decode cX8_price 116 = .ok (.aload_n 0, 1) := by decide +kernel
theorem dX8_price_117 : decode cX8_price 117 = .ok (.getfield 13, 3) := by decide +kernel
theorem dX8_price_120 : decode cX8_price 120 = .ok (.iload 5, 2) := by decide +kernel
theorem dX8_price_122 : decode cX8_price 122 = .ok (.iaload, 1) := by decide +kernel
theorem dX8_price_123 : decode cX8_price 123 = .ok (.isub, 1) := by decide +kernel
theorem dX8_price_124 : decode cX8_price 124 = .ok (.aload_n 0, 1) := by decide +kernel
theorem dX8_price_125 : decode cX8_price 125 = .ok (.getfield 22, 3) := by decide +kernel
theorem dX8_price_128 : decode cX8_price 128 = .ok (.iconst 1, 1) := by decide +kernel
theorem dX8_price_129 : decode cX8_price 129 = .ok (.iaload, 1) := by decide +kernel
theorem dX8_price_130 : decode cX8_price 130 = .ok (.imul, 1) := by decide +kernel
theorem dX8_price_131 : decode cX8_price 131 = .ok (.iadd, 1) := by decide +kernel
theorem dX8_price_132 : decode cX8_price 132 = .ok (.istore 4, 2) := by decide +kernel
theorem dX8_price_134 : decode cX8_price 134 = .ok (.iconst 0, 1) := by decide +kernel
theorem dX8_price_135 : decode cX8_price 135 = .ok (.istore 5, 2) := by decide +kernel
theorem dX8_price_137 : decode cX8_price 137 = .ok (.iload 5, 2) := by decide +kernel
theorem dX8_price_139 : decode cX8_price 139 = .ok (.iconst 4, 1) := by decide +kernel
theorem dX8_price_140 : decode cX8_price 140 = .ok (.if_icmp .ge 112, 3) := by decide +kernel
theorem dX8_price_143 : decode cX8_price 143 = .ok (.iload 5, 2) := by decide +kernel
theorem dX8_price_145 : decode cX8_price 145 = .ok (.iload_n 2, 1) := by decide +kernel
theorem dX8_price_146 : decode cX8_price 146 = .ok (.if_icmp .eq 30, 3) := by decide +kernel
theorem dX8_price_149 : decode cX8_price 149 = .ok (.aload_n 0, 1) := by decide +kernel
theorem dX8_price_150 : decode cX8_price 150 = .ok (.getfield 31, 3) := by decide +kernel
theorem dX8_price_153 : decode cX8_price 153 = .ok (.iload 5, 2) := by decide +kernel
theorem dX8_price_155 : decode cX8_price 155 = .ok (.iaload, 1) := by decide +kernel
theorem dX8_price_156 : decode cX8_price 156 = .ok (.ifCond .le 20, 3) := by decide +kernel
theorem dX8_price_159 : decode cX8_price 159 = .ok (.aload_n 0, 1) := by decide +kernel
theorem dX8_price_160 : decode cX8_price 160 = .ok (.getfield 25, 3) := by decide +kernel
theorem dX8_price_163 : decode cX8_price 163 = .ok (.aload_n 0, 1) := by decide +kernel
theorem dX8_price_164 : decode cX8_price 164 = .ok (.getfield 31, 3) := by decide +kernel
theorem dX8_price_167 : decode cX8_price 167 = .ok (.iload 5, 2) := by decide +kernel
theorem dX8_price_169 : decode cX8_price 169 = .ok (.iaload, 1) := by decide +kernel
theorem dX8_price_170 : decode cX8_price 170 = .ok (.iconst 1, 1) := by decide +kernel
theorem dX8_price_171 : decode cX8_price 171 = .ok (.isub, 1) := by decide +kernel
theorem dX8_price_172 : decode cX8_price 172 = .ok (.iaload, 1) := by decide +kernel
theorem dX8_price_173 : decode cX8_price 173 = .ok (.goto 4, 3) := by decide +kernel
theorem dX8_price_176 : decode cX8_price 176 = .ok (.iconst (-1), 1) := by decide +kernel
theorem dX8_price_177 : decode cX8_price 177 = .ok (.istore 6, 2) := by decide +kernel
theorem dX8_price_179 : decode cX8_price 179 = .ok (.iload 6, 2) := by decide +kernel
theorem dX8_price_181 : decode cX8_price 181 = .ok (.ifCond .lt 65, 3) := by decide +kernel
theorem dX8_price_184 : decode cX8_price 184 = .ok (.aload_n 0, 1) := by decide +kernel
theorem dX8_price_185 : decode cX8_price 185 = .ok (.iload 6, 2) := by decide +kernel
theorem dX8_price_187 : decode cX8_price 187 = .ok (.iload_n 3, 1) := by decide +kernel
theorem dX8_price_188 : decode cX8_price 188 = .ok (.invokevirtual 59, 3) := by decide +kernel
theorem dX8_price_191 : decode cX8_price 191 = .ok (.ifCond .eq 55, 3) := by decide +kernel
theorem dX8_price_194 : decode cX8_price 194 = .ok (.iload 5, 2) := by decide +kernel
theorem dX8_price_196 : decode cX8_price 196 = .ok (.iload_n 2, 1) := by decide +kernel
theorem dX8_price_197 : decode cX8_price 197 = .ok (.if_icmp .ge 22, 3) := by decide +kernel
theorem dX8_price_200 : decode cX8_price 200 = .ok (.aload_n 0, 1) := by decide +kernel
theorem dX8_price_201 : decode cX8_price 201 = .ok (.getfield 16, 3) := by decide +kernel
theorem dX8_price_204 : decode cX8_price 204 = .ok (.iload 6, 2) := by decide +kernel
theorem dX8_price_206 : decode cX8_price 206 = .ok (.iaload, 1) := by decide +kernel
theorem dX8_price_207 : decode cX8_price 207 = .ok (.aload_n 0, 1) := by decide +kernel
theorem dX8_price_208 : decode cX8_price 208 = .ok (.getfield 16, 3) := by decide +kernel
theorem dX8_price_211 : decode cX8_price 211 = .ok (.iload_n 3, 1) := by decide +kernel
theorem dX8_price_212 : decode cX8_price 212 = .ok (.iaload, 1) := by decide +kernel
theorem dX8_price_213 : decode cX8_price 213 = .ok (.if_icmp .ge 33, 3) := by decide +kernel
theorem dX8_price_216 : decode cX8_price 216 = .ok (.goto 19, 3) := by decide +kernel
theorem dX8_price_219 : decode cX8_price 219 = .ok (.aload_n 0, 1) := by decide +kernel
theorem dX8_price_220 : decode cX8_price 220 = .ok (.getfield 16, 3) := by decide +kernel
theorem dX8_price_223 : decode cX8_price 223 = .ok (.iload_n 3, 1) := by decide +kernel
theorem dX8_price_224 : decode cX8_price 224 = .ok (.iaload, 1) := by decide +kernel
theorem dX8_price_225 : decode cX8_price 225 = .ok (.aload_n 0, 1) := by decide +kernel
theorem dX8_price_226 : decode cX8_price 226 = .ok (.getfield 16, 3) := by decide +kernel
theorem dX8_price_229 : decode cX8_price 229 = .ok (.iload 6, 2) := by decide +kernel
theorem dX8_price_231 : decode cX8_price 231 = .ok (.iaload, 1) := by decide +kernel
theorem dX8_price_232 : decode cX8_price 232 = .ok (.if_icmp .ge 14, 3) := by decide +kernel
theorem dX8_price_235 : decode cX8_price 235 = .ok (.iload 4, 2) := by decide +kernel
theorem dX8_price_237 : decode cX8_price 237 = .ok (.aload_n 0, 1) := by decide +kernel
theorem dX8_price_238 : decode cX8_price 238 = .ok (.getfield 22, 3) := by decide +kernel
theorem dX8_price_241 : decode cX8_price 241 = .ok (.iconst 2, 1) := by decide +kernel
theorem dX8_price_242 : decode cX8_price 242 = .ok (.iaload, 1) := by decide +kernel
theorem dX8_price_243 : decode cX8_price 243 = .ok (.iadd, 1) := by decide +kernel
theorem dX8_price_244 : decode cX8_price 244 = .ok (.istore 4, 2) := by decide +kernel
theorem dX8_price_246 : decode cX8_price 246 = .ok (.iinc 5 1, 3) := by decide +kernel
theorem dX8_price_249 : decode cX8_price 249 = .ok (.goto (-112), 3) := by decide +kernel
theorem dX8_price_252 : decode cX8_price 252 = .ok (.iload 4, 2) := by decide +kernel
theorem dX8_price_254 : decode cX8_price 254 = .ok (.ireturn, 1) := by decide +kernel
set_option maxRecDepth 20000 in
theorem ggX8_level_X8_place : GoodIn wsX8_level wsX8_place := goodIn_r _ [8, 9, 1, 32, 33, 34, 35, 36, 37, 38, 39, 40, 41] (by decide +kernel) (by decide +kernel)
set_option maxRecDepth 20000 in
theorem gX8_level_X8_place : GoodIn wsX8_level (wsV RX8 63 RX8 yX8_place wsX8_place) := goodIn_app (goodIn_of _ (by decide +kernel)) ggX8_level_X8_place
set_option maxRecDepth 20000 in
theorem ggX8_level_X8_leastOf : GoodIn wsX8_level wsX8_leastOf := goodIn_r _ [13, 14, 15, 16, 17, 7, 18, 1, 2, 19, 20, 21, 22, 23, 24, 25, 26, 27, 28, 29, 30, 31, 4, 5, 6, 8, 9, 32, 33, 34, 35, 36, 37, 38, 39, 40, 41] (by decide +kernel) (by decide +kernel)
set_option maxRecDepth 20000 in
theorem gX8_level_X8_leastOf : GoodIn wsX8_level (wsV RX8 66 RX8 yX8_leastOf wsX8_leastOf) := goodIn_app (goodIn_of _ (by decide +kernel)) ggX8_level_X8_leastOf
theorem dX8_level_0 : decode cX8_level 0 = .ok (.iconst 1, 1) := by decide +kernel
theorem dX8_level_1 : decode cX8_level 1 = .ok (.istore_n 3, 1) := by decide +kernel
theorem dX8_level_2 : decode cX8_level 2 = .ok (.iconst 0, 1) := by decide +kernel
theorem dX8_level_3 : decode cX8_level 3 = .ok (.istore 4, 2) := by decide +kernel
theorem dX8_level_5 : decode cX8_level 5 = .ok (.iload 4, 2) := by decide +kernel
theorem dX8_level_7 : decode cX8_level 7 = .ok (.iload_n 2, 1) := by decide +kernel
theorem dX8_level_8 : decode cX8_level 8 = .ok (.if_icmp .ge 15, 3) := by decide +kernel
theorem dX8_level_11 : decode cX8_level 11 = .ok (.iload_n 3, 1) := by decide +kernel
theorem dX8_level_12 : decode cX8_level 12 = .ok (.iload_n 1, 1) := by decide +kernel
theorem dX8_level_13 : decode cX8_level 13 = .ok (.iconst 1, 1) := by decide +kernel
theorem dX8_level_14 : decode cX8_level 14 = .ok (.iadd, 1) := by decide +kernel
theorem dX8_level_15 : decode cX8_level 15 = .ok (.imul, 1) := by decide +kernel
theorem dX8_level_16 : decode cX8_level 16 = .ok (.istore_n 3, 1) := by decide +kernel
theorem dX8_level_17 : decode cX8_level 17 = .ok (.iinc 4 1, 3) := by decide +kernel
theorem dX8_level_20 : decode cX8_level 20 = .ok (.goto (-15), 3) := by decide +kernel
theorem dX8_level_23 : decode cX8_level 23 = .ok (.iconst 0, 1) := by decide +kernel
theorem dX8_level_24 : decode cX8_level 24 = .ok (.istore 4, 2) := by decide +kernel
theorem dX8_level_26 : decode cX8_level 26 = .ok (.iload 4, 2) := by decide +kernel
theorem dX8_level_28 : decode cX8_level 28 = .ok (.iload_n 3, 1) := by decide +kernel
theorem dX8_level_29 : decode cX8_level 29 = .ok (.if_icmp .ge 135, 3) := by decide +kernel
theorem dX8_level_32 : decode cX8_level 32 = .ok (.iload 4, 2) := by decide +kernel
theorem dX8_level_34 : decode cX8_level 34 = .ok (.istore 5, 2) := by decide +kernel
theorem dX8_level_36 : decode cX8_level 36 = .ok (.iload_n 1, 1) := by decide +kernel
theorem dX8_level_37 : decode cX8_level 37 = .ok (.ifCond .ne 7, 3) := by decide +kernel
theorem dX8_level_40 : decode cX8_level 40 = .ok (.iconst 1, 1) := by decide +kernel
theorem dX8_level_41 : decode cX8_level 41 = .ok (.goto 4, 3) := by decide +kernel
theorem dX8_level_44 : decode cX8_level 44 = .ok (.iconst 0, 1) := by decide +kernel
theorem dX8_level_45 : decode cX8_level 45 = .ok (.istore 6, 2) := by decide +kernel
theorem dX8_level_47 : decode cX8_level 47 = .ok (.iconst 0, 1) := by decide +kernel
theorem dX8_level_48 : decode cX8_level 48 = .ok (.istore 7, 2) := by decide +kernel
theorem dX8_level_50 : decode cX8_level 50 = .ok (.iload 7, 2) := by decide +kernel
theorem dX8_level_52 : decode cX8_level 52 = .ok (.iconst 4, 1) := by decide +kernel
theorem dX8_level_53 : decode cX8_level 53 = .ok (.if_icmp .ge 72, 3) := by decide +kernel
theorem dX8_level_56 : decode cX8_level 56 = .ok (.aload_n 0, 1) := by decide +kernel
theorem dX8_level_57 : decode cX8_level 57 = .ok (.getfield 31, 3) := by decide +kernel
theorem dX8_level_60 : decode cX8_level 60 = .ok (.iload 7, 2) := by decide +kernel
theorem dX8_level_62 : decode cX8_level 62 = .ok (.iload 7, 2) := by decide +kernel
theorem dX8_level_64 : decode cX8_level 64 = .ok (.iload_n 2, 1) := by decide +kernel
theorem dX8_level_65 : decode cX8_level 65 = .ok (.if_icmp .ge 12, 3) := by decide +kernel
theorem dX8_level_68 : decode cX8_level 68 = .ok (.iload 5, 2) := by decide +kernel
theorem dX8_level_70 : decode cX8_level 70 = .ok (.iload_n 1, 1) := by decide +kernel
theorem dX8_level_71 : decode cX8_level 71 = .ok (.iconst 1, 1) := by decide +kernel
theorem dX8_level_72 : decode cX8_level 72 = .ok (.iadd, 1) := by decide +kernel
theorem dX8_level_73 : decode cX8_level 73 = .ok (.irem, 1) := by decide +kernel
theorem dX8_level_74 : decode cX8_level 74 = .ok (.goto 4, 3) := by decide +kernel
theorem dX8_level_77 : decode cX8_level 77 = .ok (.iconst 0, 1) := by decide +kernel
theorem dX8_level_78 : decode cX8_level 78 = .ok (.iastore, 1) := by decide +kernel
theorem dX8_level_79 : decode cX8_level 79 = .ok (.iload 7, 2) := by decide +kernel
theorem dX8_level_81 : decode cX8_level 81 = .ok (.iload_n 2, 1) := by decide +kernel
theorem dX8_level_82 : decode cX8_level 82 = .ok (.if_icmp .ge 12, 3) := by decide +kernel
theorem dX8_level_85 : decode cX8_level 85 = .ok (.iload 5, 2) := by decide +kernel
theorem dX8_level_87 : decode cX8_level 87 = .ok (.iload_n 1, 1) := by decide +kernel
theorem dX8_level_88 : decode cX8_level 88 = .ok (.iconst 1, 1) := by decide +kernel
theorem dX8_level_89 : decode cX8_level 89 = .ok (.iadd, 1) := by decide +kernel
theorem dX8_level_90 : decode cX8_level 90 = .ok (.idiv, 1) := by decide +kernel
theorem dX8_level_91 : decode cX8_level 91 = .ok (.goto 5, 3) := by decide +kernel
theorem dX8_level_94 : decode cX8_level 94 = .ok (.iload 5, 2) := by decide +kernel
theorem dX8_level_96 : decode cX8_level 96 = .ok (.istore 5, 2) := by decide +kernel
theorem dX8_level_98 : decode cX8_level 98 = .ok (.iload 6, 2) := by decide +kernel
theorem dX8_level_100 : decode cX8_level 100 = .ok (.aload_n 0, 1) := by decide +kernel
theorem dX8_level_101 : decode cX8_level 101 = .ok (.getfield 31, 3) := by decide +kernel
theorem dX8_level_104 : decode cX8_level 104 = .ok (.iload 7, 2) := by decide +kernel
theorem dX8_level_106 : decode cX8_level 106 = .ok (.iaload, 1) := by decide +kernel
theorem dX8_level_107 : decode cX8_level 107 = .ok (.iload_n 1, 1) := by decide +kernel
theorem dX8_level_108 : decode cX8_level 108 = .ok (.if_icmp .ne 7, 3) := by decide +kernel
theorem dX8_level_111 : decode cX8_level 111 = .ok (.iconst 1, 1) := by decide +kernel
theorem dX8_level_112 : decode cX8_level 112 = .ok (.goto 4, 3) := by decide +kernel
theorem dX8_level_115 : decode cX8_level 115 = .ok (.iconst 0, 1) := by decide +kernel
theorem dX8_level_116 : decode cX8_level 116 = .ok (.ior, 1) := by decide +kernel
theorem dX8_level_117 : decode cX8_level 117 = .ok (.istore 6, 2) := by decide +kernel
theorem dX8_level_119 : decode cX8_level 119 = .ok (.iinc 7 1, 3) := by decide +kernel
theorem dX8_level_122 : decode cX8_level 122 = .ok (.goto (-72), 3) := by decide +kernel
theorem dX8_level_125 : decode cX8_level 125 = .ok (.iload 6, 2) := by decide +kernel
theorem dX8_level_127 : decode cX8_level 127 = .ok (.ifCond .eq 31, 3) := by decide +kernel
theorem dX8_level_130 : decode cX8_level 130 = .ok (.aload_n 0, 1) := by decide +kernel
theorem dX8_level_131 : decode cX8_level 131 = .ok (.getfield 35, 3) := by decide +kernel
theorem dX8_level_134 : decode cX8_level 134 = .ok (.aload_n 0, 1) := by decide +kernel
theorem dX8_level_135 : decode cX8_level 135 = .ok (.iload_n 1, 1) := by decide +kernel
theorem dX8_level_136 : decode cX8_level 136 = .ok (.invokevirtual 63, 3) := by decide +kernel
theorem dX8_level_139 : decode cX8_level 139 = .ok (.iload_n 1, 1) := by decide +kernel
theorem dX8_level_140 : decode cX8_level 140 = .ok (.aload_n 0, 1) := by decide +kernel
theorem dX8_level_141 : decode cX8_level 141 = .ok (.getfield 38, 3) := by decide +kernel
theorem dX8_level_144 : decode cX8_level 144 = .ok (.if_icmp .ne 7, 3) := by decide +kernel
theorem dX8_level_147 : decode cX8_level 147 = .ok (.iconst 0, 1) := by decide +kernel
theorem dX8_level_148 : decode cX8_level 148 = .ok (.goto 9, 3) := by decide +kernel
theorem dX8_level_151 : decode cX8_level 151 = .ok (.aload_n 0, 1) := by decide +kernel
theorem dX8_level_152 : decode cX8_level 152 = .ok (.iload_n 1, 1) := by decide +kernel
theorem dX8_level_153 : decode cX8_level 153 = .ok (.iload_n 2, 1) := by decide +kernel
theorem dX8_level_154 : decode cX8_level 154 = .ok (.invokevirtual 66, 3) := by decide +kernel
theorem dX8_level_157 : decode cX8_level 157 = .ok (.iastore, 1) := by decide +kernel
theorem dX8_level_158 : decode cX8_level 158 = .ok (.iinc 4 1, 3) := by decide +kernel
theorem dX8_level_161 : decode cX8_level 161 = .ok (.goto (-135), 3) := by decide +kernel
theorem dX8_level_164 : decode cX8_level 164 = .ok (.return_, 1) := by decide +kernel
set_option maxRecDepth 20000 in
theorem ggX8_through_X8_price : GoodIn wsX8_through wsX8_price := goodIn_r _ [8, 9, 10, 2, 1, 11, 12, 13, 14, 15, 16, 7, 17, 23, 24, 25, 26, 27, 28, 29, 30, 31, 32] (by decide +kernel) (by decide +kernel)
set_option maxRecDepth 20000 in
theorem gX8_through_X8_price : GoodIn wsX8_through (wsV RX8 70 RX8 yX8_price wsX8_price) := goodIn_app (goodIn_of _ (by decide +kernel)) ggX8_through_X8_price
set_option maxRecDepth 20000 in
theorem ggX8_through_X8_place : GoodIn wsX8_through wsX8_place := goodIn_r _ [21, 22, 2, 23, 24, 25, 26, 27, 28, 29, 30, 31, 32] (by decide +kernel) (by decide +kernel)
set_option maxRecDepth 20000 in
theorem gX8_through_X8_place : GoodIn wsX8_through (wsV RX8 63 RX8 yX8_place wsX8_place) := goodIn_app (goodIn_of _ (by decide +kernel)) ggX8_through_X8_place
theorem dX8_through_0 : decode cX8_through 0 = .ok (.aload_n 0, 1) := by decide +kernel
theorem dX8_through_1 : decode cX8_through 1 = .ok (.iload_n 1, 1) := by decide +kernel
theorem dX8_through_2 : decode cX8_through 2 = .ok (.iload_n 2, 1) := by decide +kernel
theorem dX8_through_3 : decode cX8_through 3 = .ok (.invokevirtual 70, 3) := by decide +kernel
theorem dX8_through_6 : decode cX8_through 6 = .ok (.istore_n 3, 1) := by decide +kernel
theorem dX8_through_7 : decode cX8_through 7 = .ok (.iload_n 3, 1) := by decide +kernel
theorem dX8_through_8 : decode cX8_through 8 = .ok (.ldc 62, 2) := by decide +kernel
theorem dX8_through_10 : decode cX8_through 10 = .ok (.if_icmp .ne 6, 3) := by decide +kernel
theorem dX8_through_13 : decode cX8_through 13 = .ok (.ldc 62, 2) := by decide +kernel
theorem dX8_through_15 : decode cX8_through 15 = .ok (.ireturn, 1) := by decide +kernel
theorem dX8_through_16 : decode cX8_through 16 = .ok (.aload_n 0, 1) := by decide +kernel
theorem dX8_through_17 : decode cX8_through 17 = .ok (.getfield 31, 3) := by decide +kernel
theorem dX8_through_20 : decode cX8_through 20 = .ok (.iload_n 2, 1) := by decide +kernel
theorem dX8_through_21 : decode cX8_through 21 = .ok (.iaload, 1) := by decide +kernel
theorem dX8_through_22 : decode cX8_through 22 = .ok (.istore 4, 2) := by decide +kernel
theorem dX8_through_24 : decode cX8_through 24 = .ok (.aload_n 0, 1) := by decide +kernel
theorem dX8_through_25 : decode cX8_through 25 = .ok (.getfield 31, 3) := by decide +kernel
theorem dX8_through_28 : decode cX8_through 28 = .ok (.iload_n 2, 1) := by decide +kernel
theorem dX8_through_29 : decode cX8_through 29 = .ok (.iload_n 1, 1) := by decide +kernel
theorem dX8_through_30 : decode cX8_through 30 = .ok (.iconst 1, 1) := by decide +kernel
theorem dX8_through_31 : decode cX8_through 31 = .ok (.iadd, 1) := by decide +kernel
theorem dX8_through_32 : decode cX8_through 32 = .ok (.iastore, 1) := by decide +kernel
theorem dX8_through_33 : decode cX8_through 33 = .ok (.aload_n 0, 1) := by decide +kernel
theorem dX8_through_34 : decode cX8_through 34 = .ok (.getfield 35, 3) := by decide +kernel
theorem dX8_through_37 : decode cX8_through 37 = .ok (.aload_n 0, 1) := by decide +kernel
theorem dX8_through_38 : decode cX8_through 38 = .ok (.iload_n 1, 1) := by decide +kernel
theorem dX8_through_39 : decode cX8_through 39 = .ok (.iconst 1, 1) := by decide +kernel
theorem dX8_through_40 : decode cX8_through 40 = .ok (.iadd, 1) := by decide +kernel
theorem dX8_through_41 : decode cX8_through 41 = .ok (.invokevirtual 63, 3) := by decide +kernel
theorem dX8_through_44 : decode cX8_through 44 = .ok (.iaload, 1) := by decide +kernel
theorem dX8_through_45 : decode cX8_through 45 = .ok (.istore 5, 2) := by decide +kernel
theorem dX8_through_47 : decode cX8_through 47 = .ok (.aload_n 0, 1) := by decide +kernel
theorem dX8_through_48 : decode cX8_through 48 = .ok (.getfield 31, 3) := by decide +kernel
theorem dX8_through_51 : decode cX8_through 51 = .ok (.iload_n 2, 1) := by decide +kernel
theorem dX8_through_52 : decode cX8_through 52 = .ok (.iload 4, 2) := by decide +kernel
theorem dX8_through_54 : decode cX8_through 54 = .ok (.iastore, 1) := by decide +kernel
theorem dX8_through_55 : decode cX8_through 55 = .ok (.iload 5, 2) := by decide +kernel
theorem dX8_through_57 : decode cX8_through 57 = .ok (.ldc 62, 2) := by decide +kernel
theorem dX8_through_59 : decode cX8_through 59 = .ok (.if_icmp .ne 8, 3) := by decide +kernel
theorem dX8_through_62 : decode cX8_through 62 = .ok (.ldc 62, 2) := by decide +kernel
theorem dX8_through_64 : decode cX8_through 64 = .ok (.goto 7, 3) := by decide +kernel
theorem dX8_through_67 : decode cX8_through 67 = .ok (.iload_n 3, 1) := by decide +kernel
theorem dX8_through_68 : decode cX8_through 68 = .ok (.iload 5, 2) := by decide +kernel
theorem dX8_through_70 : decode cX8_through 70 = .ok (.iadd, 1) := by decide +kernel
theorem dX8_through_71 : decode cX8_through 71 = .ok (.ireturn, 1) := by decide +kernel
set_option maxRecDepth 20000 in
theorem ggX8_leastOf_X8_through : GoodIn wsX8_leastOf wsX8_through := goodIn_r _ [6, 1, 7, 8, 9, 10, 11, 5, 12, 13, 14, 15, 16, 17, 18, 19, 20, 21, 22, 23, 24, 25, 26, 27, 28, 29, 30, 31, 32, 33, 34, 35, 36] (by decide +kernel) (by decide +kernel)
set_option maxRecDepth 20000 in
theorem gX8_leastOf_X8_through : GoodIn wsX8_leastOf (wsV RX8 73 RX8 yX8_through wsX8_through) := goodIn_app (goodIn_of _ (by decide +kernel)) ggX8_leastOf_X8_through
theorem dX8_leastOf_0 : decode cX8_leastOf 0 = .ok (.ldc 62, 2) := by decide +kernel
theorem dX8_leastOf_2 : decode cX8_leastOf 2 = .ok (.istore_n 3, 1) := by decide +kernel
theorem dX8_leastOf_3 : decode cX8_leastOf 3 = .ok (.iconst 0, 1) := by decide +kernel
theorem dX8_leastOf_4 : decode cX8_leastOf 4 = .ok (.istore 4, 2) := by decide +kernel
theorem dX8_leastOf_6 : decode cX8_leastOf 6 = .ok (.iload 4, 2) := by decide +kernel
theorem dX8_leastOf_8 : decode cX8_leastOf 8 = .ok (.iload_n 2, 1) := by decide +kernel
theorem dX8_leastOf_9 : decode cX8_leastOf 9 = .ok (.if_icmp .ge 31, 3) := by decide +kernel
theorem dX8_leastOf_12 : decode cX8_leastOf 12 = .ok (.aload_n 0, 1) := by decide +kernel
theorem dX8_leastOf_13 : decode cX8_leastOf 13 = .ok (.iload_n 1, 1) := by decide +kernel
theorem dX8_leastOf_14 : decode cX8_leastOf 14 = .ok (.iload 4, 2) := by decide +kernel
theorem dX8_leastOf_16 : decode cX8_leastOf 16 = .ok (.invokevirtual 73, 3) := by decide +kernel
theorem dX8_leastOf_19 : decode cX8_leastOf 19 = .ok (.istore 5, 2) := by decide +kernel
theorem dX8_leastOf_21 : decode cX8_leastOf 21 = .ok (.iload 5, 2) := by decide +kernel
theorem dX8_leastOf_23 : decode cX8_leastOf 23 = .ok (.iload_n 3, 1) := by decide +kernel
theorem dX8_leastOf_24 : decode cX8_leastOf 24 = .ok (.if_icmp .ge 8, 3) := by decide +kernel
theorem dX8_leastOf_27 : decode cX8_leastOf 27 = .ok (.iload 5, 2) := by decide +kernel
theorem dX8_leastOf_29 : decode cX8_leastOf 29 = .ok (.goto 4, 3) := by decide +kernel
theorem dX8_leastOf_32 : decode cX8_leastOf 32 = .ok (.iload_n 3, 1) := by decide +kernel
theorem dX8_leastOf_33 : decode cX8_leastOf 33 = .ok (.istore_n 3, 1) := by decide +kernel
theorem dX8_leastOf_34 : decode cX8_leastOf 34 = .ok (.iinc 4 1, 3) := by decide +kernel
theorem dX8_leastOf_37 : decode cX8_leastOf 37 = .ok (.goto (-31), 3) := by decide +kernel
theorem dX8_leastOf_40 : decode cX8_leastOf 40 = .ok (.iload_n 3, 1) := by decide +kernel
theorem dX8_leastOf_41 : decode cX8_leastOf 41 = .ok (.ireturn, 1) := by decide +kernel
set_option maxRecDepth 20000 in
theorem ggX8_search_X8_level : GoodIn wsX8_search wsX8_level := goodIn_r _ [10, 2, 3, 1, 11, 12, 13, 9, 14, 15, 16, 17, 18, 19, 4, 20, 21, 22, 23, 24, 25, 26, 27, 28, 29, 30, 31, 32, 33, 34, 35, 36, 37, 38, 39, 40, 41, 42, 43, 44, 45, 46] (by decide +kernel) (by decide +kernel)
set_option maxRecDepth 20000 in
theorem gX8_search_X8_level : GoodIn wsX8_search (wsV RX8 76 RX8 yX8_level wsX8_level) := goodIn_app (goodIn_of _ (by decide +kernel)) ggX8_search_X8_level
set_option maxRecDepth 20000 in
theorem ggX8_search_X8_place : GoodIn wsX8_search wsX8_place := goodIn_r _ [14, 15, 2, 37, 38, 39, 40, 41, 42, 43, 44, 45, 46] (by decide +kernel) (by decide +kernel)
set_option maxRecDepth 20000 in
theorem gX8_search_X8_place : GoodIn wsX8_search (wsV RX8 63 RX8 yX8_place wsX8_place) := goodIn_app (goodIn_of _ (by decide +kernel)) ggX8_search_X8_place
set_option maxRecDepth 20000 in
theorem ggX8_search_X8_through : GoodIn wsX8_search wsX8_through := goodIn_r _ [23, 4, 2, 3, 24, 25, 26, 9, 27, 28, 29, 30, 31, 32, 33, 34, 35, 36, 11, 12, 13, 14, 15, 37, 38, 39, 40, 41, 42, 43, 44, 45, 46] (by decide +kernel) (by decide +kernel)
set_option maxRecDepth 20000 in
theorem gX8_search_X8_through : GoodIn wsX8_search (wsV RX8 73 RX8 yX8_through wsX8_through) := goodIn_app (goodIn_of _ (by decide +kernel)) ggX8_search_X8_through
theorem dX8_search_0 : decode cX8_search 0 = .ok (.aload_n 0, 1) := by decide +kernel
theorem dX8_search_1 : decode cX8_search 1 = .ok (.getfield 38, 3) := by decide +kernel
theorem dX8_search_4 : decode cX8_search 4 = .ok (.istore_n 2, 1) := by decide +kernel
theorem dX8_search_5 : decode cX8_search 5 = .ok (.iload_n 2, 1) := by decide +kernel
theorem dX8_search_6 : decode cX8_search 6 = .ok (.ifCond .lt 15, 3) := by decide +kernel
theorem dX8_search_9 : decode cX8_search 9 = .ok (.aload_n 0, 1) := by decide +kernel
theorem dX8_search_10 : decode cX8_search 10 = .ok (.iload_n 2, 1) := by decide +kernel
theorem dX8_search_11 : decode cX8_search 11 = .ok (.iload_n 1, 1) := by decide +kernel
theorem dX8_search_12 : decode cX8_search 12 = .ok (.invokevirtual 76, 3) := by decide +kernel
theorem dX8_search_15 : decode cX8_search 15 = .ok (.iinc 2 (-1), 3) := by decide +kernel
theorem dX8_search_18 : decode cX8_search 18 = .ok (.goto (-13), 3) := by decide +kernel
theorem dX8_search_21 : decode cX8_search 21 = .ok (.iconst 0, 1) := by decide +kernel
theorem dX8_search_22 : decode cX8_search 22 = .ok (.istore_n 2, 1) := by decide +kernel
theorem dX8_search_23 : decode cX8_search 23 = .ok (.iload_n 2, 1) := by decide +kernel
theorem dX8_search_24 : decode cX8_search 24 = .ok (.iconst 4, 1) := by decide +kernel
theorem dX8_search_25 : decode cX8_search 25 = .ok (.if_icmp .ge 16, 3) := by decide +kernel
theorem dX8_search_28 : decode cX8_search 28 = .ok (.aload_n 0, 1) := by decide +kernel
theorem dX8_search_29 : decode cX8_search 29 = .ok (.getfield 31, 3) := by decide +kernel
theorem dX8_search_32 : decode cX8_search 32 = .ok (.iload_n 2, 1) := by decide +kernel
theorem dX8_search_33 : decode cX8_search 33 = .ok (.iconst 0, 1) := by decide +kernel
theorem dX8_search_34 : decode cX8_search 34 = .ok (.iastore, 1) := by decide +kernel
theorem dX8_search_35 : decode cX8_search 35 = .ok (.iinc 2 1, 3) := by decide +kernel
theorem dX8_search_38 : decode cX8_search 38 = .ok (.goto (-15), 3) := by decide +kernel
theorem dX8_search_41 : decode cX8_search 41 = .ok (.aload_n 0, 1) := by decide +kernel
theorem dX8_search_42 : decode cX8_search 42 = .ok (.getfield 35, 3) := by decide +kernel
theorem dX8_search_45 : decode cX8_search 45 = .ok (.aload_n 0, 1) := by decide +kernel
theorem dX8_search_46 : decode cX8_search 46 = .ok (.iconst 0, 1) := by decide +kernel
theorem dX8_search_47 : decode cX8_search 47 = .ok (.invokevirtual 63, 3) := by decide +kernel
theorem dX8_search_50 : decode cX8_search 50 = .ok (.iaload, 1) := by decide +kernel
theorem dX8_search_51 : decode cX8_search 51 = .ok (.istore_n 2, 1) := by decide +kernel
theorem dX8_search_52 : decode cX8_search 52 = .ok (.iconst 0, 1) := by decide +kernel
theorem dX8_search_53 : decode cX8_search 53 = .ok (.istore_n 3, 1) := by decide +kernel
theorem dX8_search_54 : decode cX8_search 54 = .ok (.iload_n 3, 1) := by decide +kernel
theorem dX8_search_55 : decode cX8_search 55 = .ok (.aload_n 0, 1) := by decide +kernel
theorem dX8_search_56 : decode cX8_search 56 = .ok (.getfield 38, 3) := by decide +kernel
theorem dX8_search_59 : decode cX8_search 59 = .ok (.if_icmp .ge 66, 3) := by decide +kernel
theorem dX8_search_62 : decode cX8_search 62 = .ok (.iload_n 2, 1) := by decide +kernel
theorem dX8_search_63 : decode cX8_search 63 = .ok (.ldc 62, 2) := by decide +kernel
theorem dX8_search_65 : decode cX8_search 65 = .ok (.if_icmp .ge 60, 3) := by decide +kernel
theorem dX8_search_68 : decode cX8_search 68 = .ok (.aload_n 0, 1) := by decide +kernel
theorem dX8_search_69 : decode cX8_search 69 = .ok (.getfield 35, 3) := by decide +kernel
theorem dX8_search_72 : decode cX8_search 72 = .ok (.aload_n 0, 1) := by decide +kernel
theorem dX8_search_73 : decode cX8_search 73 = .ok (.iload_n 3, 1) := by decide +kernel
theorem dX8_search_74 : decode cX8_search 74 = .ok (.invokevirtual 63, 3) := by decide +kernel
theorem dX8_search_77 : decode cX8_search 77 = .ok (.iaload, 1) := by decide +kernel
theorem dX8_search_78 : decode cX8_search 78 = .ok (.istore 4, 2) := by decide +kernel
theorem dX8_search_80 : decode cX8_search 80 = .ok (.iconst 0, 1) := by decide +kernel
theorem dX8_search_81 : decode cX8_search 81 = .ok (.istore 5, 2) := by decide +kernel
theorem dX8_search_83 : decode cX8_search 83 = .ok (.aload_n 0, 1) := by decide +kernel
theorem dX8_search_84 : decode cX8_search 84 = .ok (.iload_n 3, 1) := by decide +kernel
theorem dX8_search_85 : decode cX8_search 85 = .ok (.iload 5, 2) := by decide +kernel
theorem dX8_search_87 : decode cX8_search 87 = .ok (.invokevirtual 73, 3) := by decide +kernel
theorem dX8_search_90 : decode cX8_search 90 = .ok (.iload 4, 2) := by decide +kernel
theorem dX8_search_92 : decode cX8_search 92 = .ok (.if_icmp .eq 9, 3) := by decide +kernel
theorem dX8_search_95 : decode cX8_search 95 = .ok (.iinc 5 1, 3) := by decide +kernel
theorem dX8_search_98 : decode cX8_search 98 = .ok (.goto (-15), 3) := by decide +kernel
theorem dX8_search_101 : decode cX8_search 101 = .ok (.aload_n 0, 1) := by decide +kernel
theorem dX8_search_102 : decode cX8_search 102 = .ok (.getfield 28, 3) := by decide +kernel
theorem dX8_search_105 : decode cX8_search 105 = .ok (.iload_n 3, 1) := by decide +kernel
theorem dX8_search_106 : decode cX8_search 106 = .ok (.iload 5, 2) := by decide +kernel
theorem dX8_search_108 : decode cX8_search 108 = .ok (.iastore, 1) := by decide +kernel
theorem dX8_search_109 : decode cX8_search 109 = .ok (.aload_n 0, 1) := by decide +kernel
theorem dX8_search_110 : decode cX8_search 110 = .ok (.getfield 31, 3) := by decide +kernel
theorem dX8_search_113 : decode cX8_search 113 = .ok (.iload 5, 2) := by decide +kernel
theorem dX8_search_115 : decode cX8_search 115 = .ok (.iload_n 3, 1) := by decide +kernel
theorem dX8_search_116 : decode cX8_search 116 = .ok (.iconst 1, 1) := by decide +kernel
theorem dX8_search_117 : decode cX8_search 117 = .ok (.iadd, 1) := by decide +kernel
theorem dX8_search_118 : decode cX8_search 118 = .ok (.iastore, 1) := by decide +kernel
theorem dX8_search_119 : decode cX8_search 119 = .ok (.iinc 3 1, 3) := by decide +kernel
theorem dX8_search_122 : decode cX8_search 122 = .ok (.goto (-68), 3) := by decide +kernel
theorem dX8_search_125 : decode cX8_search 125 = .ok (.iload_n 2, 1) := by decide +kernel
theorem dX8_search_126 : decode cX8_search 126 = .ok (.ireturn, 1) := by decide +kernel
set_option maxRecDepth 20000 in
theorem ggX8_least_X8_search : GoodIn wsX8_least wsX8_search := goodIn_r _ [7, 1, 8, 9, 2, 10, 11, 12, 13, 6, 14, 15, 16, 17, 18, 19, 20, 21, 22, 23, 24, 25, 26, 27, 28, 29, 30, 31, 32, 33, 34, 35, 36, 37, 38, 39, 40, 41, 42, 43, 44, 45, 46, 47, 48, 49, 50] (by decide +kernel) (by decide +kernel)
set_option maxRecDepth 20000 in
theorem gX8_least_X8_search : GoodIn wsX8_least (wsV RX8 80 RX8 yX8_search wsX8_search) := goodIn_app (goodIn_of _ (by decide +kernel)) ggX8_least_X8_search
theorem dX8_least_0 : decode cX8_least 0 = .ok (.iload_n 1, 1) := by decide +kernel
theorem dX8_least_1 : decode cX8_least 1 = .ok (.iconst 1, 1) := by decide +kernel
theorem dX8_least_2 : decode cX8_least 2 = .ok (.if_icmp .lt 8, 3) := by decide +kernel
theorem dX8_least_5 : decode cX8_least 5 = .ok (.iload_n 1, 1) := by decide +kernel
theorem dX8_least_6 : decode cX8_least 6 = .ok (.iconst 4, 1) := by decide +kernel
theorem dX8_least_7 : decode cX8_least 7 = .ok (.if_icmp .le 6, 3) := by decide +kernel
theorem dX8_least_10 : decode cX8_least 10 = .ok (.bipush (-2), 2) := by decide +kernel
theorem dX8_least_12 : decode cX8_least 12 = .ok (.ireturn, 1) := by decide +kernel
theorem dX8_least_13 : decode cX8_least 13 = .ok (.aload_n 0, 1) := by decide +kernel
theorem dX8_least_14 : decode cX8_least 14 = .ok (.getfield 38, 3) := by decide +kernel
theorem dX8_least_17 : decode cX8_least 17 = .ok (.bipush 14, 2) := by decide +kernel
theorem dX8_least_19 : decode cX8_least 19 = .ok (.if_icmp .le 6, 3) := by decide +kernel
theorem dX8_least_22 : decode cX8_least 22 = .ok (.bipush (-3), 2) := by decide +kernel
theorem dX8_least_24 : decode cX8_least 24 = .ok (.ireturn, 1) := by decide +kernel
theorem dX8_least_25 : decode cX8_least 25 = .ok (.aload_n 0, 1) := by decide +kernel
theorem dX8_least_26 : decode cX8_least 26 = .ok (.iload_n 1, 1) := by decide +kernel
theorem dX8_least_27 : decode cX8_least 27 = .ok (.invokevirtual 80, 3) := by decide +kernel
theorem dX8_least_30 : decode cX8_least 30 = .ok (.istore_n 2, 1) := by decide +kernel
theorem dX8_least_31 : decode cX8_least 31 = .ok (.iload_n 2, 1) := by decide +kernel
theorem dX8_least_32 : decode cX8_least 32 = .ok (.ldc 62, 2) := by decide +kernel
theorem dX8_least_34 : decode cX8_least 34 = .ok (.if_icmp .ne 7, 3) := by decide +kernel
theorem dX8_least_37 : decode cX8_least 37 = .ok (.iconst (-1), 1) := by decide +kernel
theorem dX8_least_38 : decode cX8_least 38 = .ok (.goto 4, 3) := by decide +kernel
theorem dX8_least_41 : decode cX8_least 41 = .ok (.iload_n 2, 1) := by decide +kernel
theorem dX8_least_42 : decode cX8_least 42 = .ok (.ireturn, 1) := by decide +kernel
theorem dX8_give_0 : decode cX8_give 0 = .ok (.iconst 0, 1) := by decide +kernel
theorem dX8_give_1 : decode cX8_give 1 = .ok (.istore_n 1, 1) := by decide +kernel
theorem dX8_give_2 : decode cX8_give 2 = .ok (.iload_n 1, 1) := by decide +kernel
theorem dX8_give_3 : decode cX8_give 3 = .ok (.aload_n 0, 1) := by decide +kernel
theorem dX8_give_4 : decode cX8_give 4 = .ok (.getfield 38, 3) := by decide +kernel
theorem dX8_give_7 : decode cX8_give 7 = .ok (.if_icmp .ge 26, 3) := by decide +kernel
theorem dX8_give_10 : decode cX8_give 10 = .ok (.aload_n 0, 1) := by decide +kernel
theorem dX8_give_11 : decode cX8_give 11 = .ok (.getfield 19, 3) := by decide +kernel
theorem dX8_give_14 : decode cX8_give 14 = .ok (.aload_n 0, 1) := by decide +kernel
theorem dX8_give_15 : decode cX8_give 15 = .ok (.getfield 25, 3) := by decide +kernel
theorem dX8_give_18 : decode cX8_give 18 = .ok (.iload_n 1, 1) := by decide +kernel
theorem dX8_give_19 : decode cX8_give 19 = .ok (.iaload, 1) := by decide +kernel
theorem dX8_give_20 : decode cX8_give 20 = .ok (.aload_n 0, 1) := by decide +kernel
theorem dX8_give_21 : decode cX8_give 21 = .ok (.getfield 28, 3) := by decide +kernel
theorem dX8_give_24 : decode cX8_give 24 = .ok (.iload_n 1, 1) := by decide +kernel
theorem dX8_give_25 : decode cX8_give 25 = .ok (.iaload, 1) := by decide +kernel
theorem dX8_give_26 : decode cX8_give 26 = .ok (.iastore, 1) := by decide +kernel
theorem dX8_give_27 : decode cX8_give 27 = .ok (.iinc 1 1, 3) := by decide +kernel
theorem dX8_give_30 : decode cX8_give 30 = .ok (.goto (-28), 3) := by decide +kernel
theorem dX8_give_33 : decode cX8_give 33 = .ok (.return_, 1) := by decide +kernel
set_option maxRecDepth 20000 in
theorem ggX8_find_X8_least : GoodIn wsX8_find wsX8_least := goodIn_r _ [5, 6, 7, 8, 9, 10, 4, 11, 12, 13, 14, 15, 16, 17, 18, 19, 20, 21, 22, 23, 24, 25, 26, 27, 28, 29, 30, 31, 32, 33, 34, 35, 36, 37, 38, 39, 40, 41, 42, 43, 44, 50, 51, 52, 53, 54, 55, 56, 57, 58, 59] (by decide +kernel) (by decide +kernel)
set_option maxRecDepth 20000 in
theorem gX8_find_X8_least : GoodIn wsX8_find (wsV RX8 83 RX8 yX8_least wsX8_least) := goodIn_app (goodIn_of _ (by decide +kernel)) ggX8_find_X8_least
set_option maxRecDepth 20000 in
theorem ggX8_find_X8_give : GoodIn wsX8_find wsX8_give := goodIn_r _ [48, 6, 49, 36, 14, 50, 51, 52, 53, 54, 55, 56, 57, 58, 59] (by decide +kernel) (by decide +kernel)
set_option maxRecDepth 20000 in
theorem gX8_find_X8_give : GoodIn wsX8_find (wsV RX8 86 RX8 yX8_give wsX8_give) := goodIn_app (goodIn_of _ (by decide +kernel)) ggX8_find_X8_give
theorem dX8_find_0 : decode cX8_find 0 = .ok (.aload_n 0, 1) := by decide +kernel
theorem dX8_find_1 : decode cX8_find 1 = .ok (.iload_n 1, 1) := by decide +kernel
theorem dX8_find_2 : decode cX8_find 2 = .ok (.invokevirtual 83, 3) := by decide +kernel
theorem dX8_find_5 : decode cX8_find 5 = .ok (.istore_n 2, 1) := by decide +kernel
theorem dX8_find_6 : decode cX8_find 6 = .ok (.iload_n 2, 1) := by decide +kernel
theorem dX8_find_7 : decode cX8_find 7 = .ok (.ifCond .lt 7, 3) := by decide +kernel
theorem dX8_find_10 : decode cX8_find 10 = .ok (.aload_n 0, 1) := by decide +kernel
theorem dX8_find_11 : decode cX8_find 11 = .ok (.invokevirtual 86, 3) := by decide +kernel
theorem dX8_find_14 : decode cX8_find 14 = .ok (.iload_n 2, 1) := by decide +kernel
theorem dX8_find_15 : decode cX8_find 15 = .ok (.ireturn, 1) := by decide +kernel
set_option maxRecDepth 20000 in
theorem ggX8_along_X8_price : GoodIn wsX8_along wsX8_price := goodIn_r _ [9, 10, 11, 1, 3, 12, 13, 14, 15, 16, 17, 8, 18, 24, 25, 26, 27, 28, 29, 30, 31, 32, 33] (by decide +kernel) (by decide +kernel)
set_option maxRecDepth 20000 in
theorem gX8_along_X8_price : GoodIn wsX8_along (wsV RX8 70 RX8 yX8_price wsX8_price) := goodIn_app (goodIn_of _ (by decide +kernel)) ggX8_along_X8_price
set_option maxRecDepth 20000 in
theorem ggX8_along_X8_give : GoodIn wsX8_along wsX8_give := goodIn_r _ [22, 2, 23, 10, 4, 24, 25, 26, 27, 28, 29, 30, 31, 32, 33] (by decide +kernel) (by decide +kernel)
set_option maxRecDepth 20000 in
theorem gX8_along_X8_give : GoodIn wsX8_along (wsV RX8 86 RX8 yX8_give wsX8_give) := goodIn_app (goodIn_of _ (by decide +kernel)) ggX8_along_X8_give
theorem dX8_along_0 : decode cX8_along 0 = .ok (.iload_n 1, 1) := by decide +kernel
theorem dX8_along_1 : decode cX8_along 1 = .ok (.iconst 1, 1) := by decide +kernel
theorem dX8_along_2 : decode cX8_along 2 = .ok (.if_icmp .lt 8, 3) := by decide +kernel
theorem dX8_along_5 : decode cX8_along 5 = .ok (.iload_n 1, 1) := by decide +kernel
theorem dX8_along_6 : decode cX8_along 6 = .ok (.iconst 4, 1) := by decide +kernel
theorem dX8_along_7 : decode cX8_along 7 = .ok (.if_icmp .le 6, 3) := by decide +kernel
theorem dX8_along_10 : decode cX8_along 10 = .ok (.bipush (-2), 2) := by decide +kernel
theorem dX8_along_12 : decode cX8_along 12 = .ok (.ireturn, 1) := by decide +kernel
theorem dX8_along_13 : decode cX8_along 13 = .ok (.iconst 0, 1) := by decide +kernel
theorem dX8_along_14 : decode cX8_along 14 = .ok (.istore_n 2, 1) := by decide +kernel
theorem dX8_along_15 : decode cX8_along 15 = .ok (.iload_n 2, 1) := by decide +kernel
theorem dX8_along_16 : decode cX8_along 16 = .ok (.iconst 4, 1) := by decide +kernel
theorem dX8_along_17 : decode cX8_along 17 = .ok (.if_icmp .ge 16, 3) := by decide +kernel
theorem dX8_along_20 : decode cX8_along 20 = .ok (.aload_n 0, 1) := by decide +kernel
theorem dX8_along_21 : decode cX8_along 21 = .ok (.getfield 31, 3) := by decide +kernel
theorem dX8_along_24 : decode cX8_along 24 = .ok (.iload_n 2, 1) := by decide +kernel
theorem dX8_along_25 : decode cX8_along 25 = .ok (.iconst 0, 1) := by decide +kernel
theorem dX8_along_26 : decode cX8_along 26 = .ok (.iastore, 1) := by decide +kernel
theorem dX8_along_27 : decode cX8_along 27 = .ok (.iinc 2 1, 3) := by decide +kernel
theorem dX8_along_30 : decode cX8_along 30 = .ok (.goto (-15), 3) := by decide +kernel
theorem dX8_along_33 : decode cX8_along 33 = .ok (.iconst 0, 1) := by decide +kernel
theorem dX8_along_34 : decode cX8_along 34 = .ok (.istore_n 2, 1) := by decide +kernel
theorem dX8_along_35 : decode cX8_along 35 = .ok (.iload_n 2, 1) := by decide +kernel
theorem dX8_along_36 : decode cX8_along 36 = .ok (.aload_n 0, 1) := by decide +kernel
theorem dX8_along_37 : decode cX8_along 37 = .ok (.getfield 38, 3) := by decide +kernel
theorem dX8_along_40 : decode cX8_along 40 = .ok (.if_icmp .ge 77, 3) := by decide +kernel
theorem dX8_along_43 : decode cX8_along 43 = .ok (.ldc 62, 2) := by decide +kernel
theorem dX8_along_45 : decode cX8_along 45 = .ok (.istore_n 3, 1) := by decide +kernel
theorem dX8_along_46 : decode cX8_along 46 = .ok (.iconst (-1), 1) := by decide +kernel
theorem dX8_along_47 : decode cX8_along 47 = .ok (.istore 4, 2) := by decide +kernel
theorem dX8_along_49 : decode cX8_along 49 = .ok (.iconst 0, 1) := by decide +kernel
theorem dX8_along_50 : decode cX8_along 50 = .ok (.istore 5, 2) := by decide +kernel
theorem dX8_along_52 : decode cX8_along 52 = .ok (.iload 5, 2) := by decide +kernel
theorem dX8_along_54 : decode cX8_along 54 = .ok (.iload_n 1, 1) := by decide +kernel
theorem dX8_along_55 : decode cX8_along 55 = .ok (.if_icmp .ge 31, 3) := by decide +kernel
theorem dX8_along_58 : decode cX8_along 58 = .ok (.aload_n 0, 1) := by decide +kernel
theorem dX8_along_59 : decode cX8_along 59 = .ok (.iload_n 2, 1) := by decide +kernel
theorem dX8_along_60 : decode cX8_along 60 = .ok (.iload 5, 2) := by decide +kernel
theorem dX8_along_62 : decode cX8_along 62 = .ok (.invokevirtual 70, 3) := by decide +kernel
theorem dX8_along_65 : decode cX8_along 65 = .ok (.istore 6, 2) := by decide +kernel
theorem dX8_along_67 : decode cX8_along 67 = .ok (.iload 6, 2) := by decide +kernel
theorem dX8_along_69 : decode cX8_along 69 = .ok (.iload_n 3, 1) := by decide +kernel
theorem dX8_along_70 : decode cX8_along 70 = .ok (.if_icmp .ge 10, 3) := by decide +kernel
theorem dX8_along_73 : decode cX8_along 73 = .ok (.iload 6, 2) := by decide +kernel
theorem dX8_along_75 : decode cX8_along 75 = .ok (.istore_n 3, 1) := by decide +kernel
theorem dX8_along_76 : decode cX8_along 76 = .ok (.iload 5, 2) := by decide +kernel
theorem dX8_along_78 : decode cX8_along 78 = .ok (.istore 4, 2) := by decide +kernel
theorem dX8_along_80 : decode cX8_along 80 = .ok (.iinc 5 1, 3) := by decide +kernel
theorem dX8_along_83 : decode cX8_along 83 = .ok (.goto (-31), 3) := by decide +kernel
theorem dX8_along_86 : decode cX8_along 86 = .ok (.iload 4, 2) := by decide +kernel
theorem dX8_along_88 : decode cX8_along 88 = .ok (.ifCond .ge 5, 3) := by decide +kernel
theorem dX8_along_91 : decode cX8_along 91 = .ok (.iconst (-1), 1) := by decide +kernel
theorem dX8_along_92 : decode cX8_along 92 = .ok (.ireturn, 1) := by decide +kernel
theorem dX8_along_93 : decode cX8_along 93 = .ok (.aload_n 0, 1) := by decide +kernel
theorem dX8_along_94 : decode cX8_along 94 = .ok (.getfield 28, 3) := by decide +kernel
theorem dX8_along_97 : decode cX8_along 97 = .ok (.iload_n 2, 1) := by decide +kernel
theorem dX8_along_98 : decode cX8_along 98 = .ok (.iload 4, 2) := by decide +kernel
theorem dX8_along_100 : decode cX8_along 100 = .ok (.iastore, 1) := by decide +kernel
theorem dX8_along_101 : decode cX8_along 101 = .ok (.aload_n 0, 1) := by decide +kernel
theorem dX8_along_102 : decode cX8_along 102 = .ok (.getfield 31, 3) := by decide +kernel
theorem dX8_along_105 : decode cX8_along 105 = .ok (.iload 4, 2) := by decide +kernel
theorem dX8_along_107 : decode cX8_along 107 = .ok (.iload_n 2, 1) := by decide +kernel
theorem dX8_along_108 : decode cX8_along 108 = .ok (.iconst 1, 1) := by decide +kernel
theorem dX8_along_109 : decode cX8_along 109 = .ok (.iadd, 1) := by decide +kernel
theorem dX8_along_110 : decode cX8_along 110 = .ok (.iastore, 1) := by decide +kernel
theorem dX8_along_111 : decode cX8_along 111 = .ok (.iinc 2 1, 3) := by decide +kernel
theorem dX8_along_114 : decode cX8_along 114 = .ok (.goto (-79), 3) := by decide +kernel
theorem dX8_along_117 : decode cX8_along 117 = .ok (.aload_n 0, 1) := by decide +kernel
theorem dX8_along_118 : decode cX8_along 118 = .ok (.invokevirtual 86, 3) := by decide +kernel
theorem dX8_along_121 : decode cX8_along 121 = .ok (.iconst 1, 1) := by decide +kernel
theorem dX8_along_122 : decode cX8_along 122 = .ok (.ireturn, 1) := by decide +kernel
set_option maxRecDepth 20000 in
theorem ggX8_clashes_X8_together : GoodIn wsX8_clashes wsX8_together := goodIn_r _ [7, 8, 9, 10, 11, 12, 13, 14, 15, 16, 17, 18, 19] (by decide +kernel) (by decide +kernel)
set_option maxRecDepth 20000 in
theorem gX8_clashes_X8_together : GoodIn wsX8_clashes (wsV RX8 59 RX8 yX8_together wsX8_together) := goodIn_app (goodIn_of _ (by decide +kernel)) ggX8_clashes_X8_together
theorem dX8_clashes_0 : decode cX8_clashes 0 = .ok (.iconst 0, 1) := by decide +kernel
theorem dX8_clashes_1 : decode cX8_clashes 1 = .ok (.istore_n 2, 1) := by decide +kernel
theorem dX8_clashes_2 : decode cX8_clashes 2 = .ok (.iconst 0, 1) := by decide +kernel
theorem dX8_clashes_3 : decode cX8_clashes 3 = .ok (.istore_n 3, 1) := by decide +kernel
theorem dX8_clashes_4 : decode cX8_clashes 4 = .ok (.iload_n 3, 1) := by decide +kernel
theorem dX8_clashes_5 : decode cX8_clashes 5 = .ok (.aload_n 0, 1) := by decide +kernel
theorem dX8_clashes_6 : decode cX8_clashes 6 = .ok (.getfield 38, 3) := by decide +kernel
theorem dX8_clashes_9 : decode cX8_clashes 9 = .ok (.if_icmp .ge 55, 3) := by decide +kernel
theorem dX8_clashes_12 : decode cX8_clashes 12 = .ok (.iload_n 2, 1) := by decide +kernel
theorem dX8_clashes_13 : decode cX8_clashes 13 = .ok (.iload_n 3, 1) := by decide +kernel
theorem dX8_clashes_14 : decode cX8_clashes 14 = .ok (.iload_n 1, 1) := by decide +kernel
theorem dX8_clashes_15 : decode cX8_clashes 15 = .ok (.if_icmp .eq 40, 3) := by decide +kernel
theorem dX8_clashes_18 : decode cX8_clashes 18 = .ok (.aload_n 0, 1) := by decide +kernel
theorem dX8_clashes_19 : decode cX8_clashes 19 = .ok (.getfield 19, 3) := by decide +kernel
theorem dX8_clashes_22 : decode cX8_clashes 22 = .ok (.iload_n 1, 1) := by decide +kernel
theorem dX8_clashes_23 : decode cX8_clashes 23 = .ok (.iaload, 1) := by decide +kernel
theorem dX8_clashes_24 : decode cX8_clashes 24 = .ok (.ifCond .lt 31, 3) := by decide +kernel
theorem dX8_clashes_27 : decode cX8_clashes 27 = .ok (.aload_n 0, 1) := by decide +kernel
theorem dX8_clashes_28 : decode cX8_clashes 28 = .ok (.getfield 19, 3) := by decide +kernel
theorem dX8_clashes_31 : decode cX8_clashes 31 = .ok (.iload_n 3, 1) := by decide +kernel
theorem dX8_clashes_32 : decode cX8_clashes 32 = .ok (.iaload, 1) := by decide +kernel
theorem dX8_clashes_33 : decode cX8_clashes 33 = .ok (.aload_n 0, 1) := by decide +kernel
theorem dX8_clashes_34 : decode cX8_clashes 34 = .ok (.getfield 19, 3) := by decide +kernel
theorem dX8_clashes_37 : decode cX8_clashes 37 = .ok (.iload_n 1, 1) := by decide +kernel
theorem dX8_clashes_38 : decode cX8_clashes 38 = .ok (.iaload, 1) := by decide +kernel
theorem dX8_clashes_39 : decode cX8_clashes 39 = .ok (.if_icmp .ne 16, 3) := by decide +kernel
theorem dX8_clashes_42 : decode cX8_clashes 42 = .ok (.aload_n 0, 1) := by decide +kernel
theorem dX8_clashes_43 : decode cX8_clashes 43 = .ok (.iload_n 3, 1) := by decide +kernel
theorem dX8_clashes_44 : decode cX8_clashes 44 = .ok (.iload_n 1, 1) := by decide +kernel
theorem dX8_clashes_45 : decode cX8_clashes 45 = .ok (.invokevirtual 59, 3) := by decide +kernel
theorem dX8_clashes_48 : decode cX8_clashes 48 = .ok (.ifCond .eq 7, 3) := by decide +kernel
theorem dX8_clashes_51 : decode cX8_clashes 51 = .ok (.iconst 1, 1) := by decide +kernel
theorem dX8_clashes_52 : decode cX8_clashes 52 = .ok (.goto 4, 3) := by decide +kernel
theorem dX8_clashes_55 : decode cX8_clashes 55 = .ok (.iconst 0, 1) := by decide +kernel
theorem dX8_clashes_56 : decode cX8_clashes 56 = .ok (.iadd, 1) := by decide +kernel
theorem dX8_clashes_57 : decode cX8_clashes 57 = .ok (.istore_n 2, 1) := by decide +kernel
theorem dX8_clashes_58 : decode cX8_clashes 58 = .ok (.iinc 3 1, 3) := by decide +kernel
theorem dX8_clashes_61 : decode cX8_clashes 61 = .ok (.goto (-57), 3) := by decide +kernel
theorem dX8_clashes_64 : decode cX8_clashes 64 = .ok (.iload_n 2, 1) := by decide +kernel
theorem dX8_clashes_65 : decode cX8_clashes 65 = .ok (.ireturn, 1) := by decide +kernel
set_option maxRecDepth 20000 in
theorem ggX8_isWhole_X8_clashes : GoodIn wsX8_isWhole wsX8_clashes := goodIn_r _ [7, 1, 2, 8, 9, 10, 6, 11, 12, 13, 14, 15, 16, 17, 18, 19, 20, 21, 22, 23] (by decide +kernel) (by decide +kernel)
set_option maxRecDepth 20000 in
theorem gX8_isWhole_X8_clashes : GoodIn wsX8_isWhole (wsV RX8 89 RX8 yX8_clashes wsX8_clashes) := goodIn_app (goodIn_of _ (by decide +kernel)) ggX8_isWhole_X8_clashes
theorem dX8_isWhole_0 : decode cX8_isWhole 0 = .ok (.iconst 1, 1) := by decide +kernel
theorem dX8_isWhole_1 : decode cX8_isWhole 1 = .ok (.istore_n 1, 1) := by decide +kernel
theorem dX8_isWhole_2 : decode cX8_isWhole 2 = .ok (.iconst 0, 1) := by decide +kernel
theorem dX8_isWhole_3 : decode cX8_isWhole 3 = .ok (.istore_n 2, 1) := by decide +kernel
theorem dX8_isWhole_4 : decode cX8_isWhole 4 = .ok (.iload_n 2, 1) := by decide +kernel
theorem dX8_isWhole_5 : decode cX8_isWhole 5 = .ok (.aload_n 0, 1) := by decide +kernel
theorem dX8_isWhole_6 : decode cX8_isWhole 6 = .ok (.getfield 38, 3) := by decide +kernel
theorem dX8_isWhole_9 : decode cX8_isWhole 9 = .ok (.if_icmp .ge 34, 3) := by decide +kernel
theorem dX8_isWhole_12 : decode cX8_isWhole 12 = .ok (.iload_n 1, 1) := by decide +kernel
theorem dX8_isWhole_13 : decode cX8_isWhole 13 = .ok (.aload_n 0, 1) := by decide +kernel
theorem dX8_isWhole_14 : decode cX8_isWhole 14 = .ok (.getfield 19, 3) := by decide +kernel
theorem dX8_isWhole_17 : decode cX8_isWhole 17 = .ok (.iload_n 2, 1) := by decide +kernel
theorem dX8_isWhole_18 : decode cX8_isWhole 18 = .ok (.iaload, 1) := by decide +kernel
theorem dX8_isWhole_19 : decode cX8_isWhole 19 = .ok (.ifCond .lt 15, 3) := by decide +kernel
theorem dX8_isWhole_22 : decode cX8_isWhole 22 = .ok (.aload_n 0, 1) := by decide +kernel
theorem dX8_isWhole_23 : decode cX8_isWhole 23 = .ok (.iload_n 2, 1) := by decide +kernel
theorem dX8_isWhole_24 : decode cX8_isWhole 24 = .ok (.invokevirtual 89, 3) := by decide +kernel
theorem dX8_isWhole_27 : decode cX8_isWhole 27 = .ok (.ifCond .ne 7, 3) := by decide +kernel
theorem dX8_isWhole_30 : decode cX8_isWhole 30 = .ok (.iconst 1, 1) := by decide +kernel
theorem dX8_isWhole_31 : decode cX8_isWhole 31 = .ok (.goto 4, 3) := by decide +kernel
theorem dX8_isWhole_34 : decode cX8_isWhole 34 = .ok (.iconst 0, 1) := by decide +kernel
theorem dX8_isWhole_35 : decode cX8_isWhole 35 = .ok (.iand, 1) := by decide +kernel
theorem dX8_isWhole_36 : decode cX8_isWhole 36 = .ok (.istore_n 1, 1) := by decide +kernel
theorem dX8_isWhole_37 : decode cX8_isWhole 37 = .ok (.iinc 2 1, 3) := by decide +kernel
theorem dX8_isWhole_40 : decode cX8_isWhole 40 = .ok (.goto (-36), 3) := by decide +kernel
theorem dX8_isWhole_43 : decode cX8_isWhole 43 = .ok (.iload_n 1, 1) := by decide +kernel
theorem dX8_isWhole_44 : decode cX8_isWhole 44 = .ok (.ireturn, 1) := by decide +kernel
set_option maxRecDepth 20000 in
theorem ggX8_nextOf_X8_rank : GoodIn wsX8_nextOf wsX8_rank := goodIn_r _ [8, 1, 9, 10, 11, 7, 12, 13, 14, 15, 16, 17, 18, 19, 20, 21, 22, 23, 24] (by decide +kernel) (by decide +kernel)
set_option maxRecDepth 20000 in
theorem gX8_nextOf_X8_rank : GoodIn wsX8_nextOf (wsV RX8 47 RX8 yX8_rank wsX8_rank) := goodIn_app (goodIn_of _ (by decide +kernel)) ggX8_nextOf_X8_rank
theorem dX8_nextOf_0 : decode cX8_nextOf 0 = .ok (.iconst (-1), 1) := by decide +kernel
theorem dX8_nextOf_1 : decode cX8_nextOf 1 = .ok (.istore_n 2, 1) := by decide +kernel
theorem dX8_nextOf_2 : decode cX8_nextOf 2 = .ok (.aload_n 0, 1) := by decide +kernel
theorem dX8_nextOf_3 : decode cX8_nextOf 3 = .ok (.getfield 38, 3) := by decide +kernel
theorem dX8_nextOf_6 : decode cX8_nextOf 6 = .ok (.iconst 1, 1) := by decide +kernel
theorem dX8_nextOf_7 : decode cX8_nextOf 7 = .ok (.isub, 1) := by decide +kernel
theorem dX8_nextOf_8 : decode cX8_nextOf 8 = .ok (.istore_n 3, 1) := by decide +kernel
theorem dX8_nextOf_9 : decode cX8_nextOf 9 = .ok (.iload_n 3, 1) := by decide +kernel
theorem dX8_nextOf_10 : decode cX8_nextOf 10 = .ok (.aload_n 0, 1) := by decide +kernel
theorem dX8_nextOf_11 : decode cX8_nextOf 11 = .ok (.iload_n 1, 1) := by decide +kernel
theorem dX8_nextOf_12 : decode cX8_nextOf 12 = .ok (.invokevirtual 47, 3) := by decide +kernel
theorem dX8_nextOf_15 : decode cX8_nextOf 15 = .ok (.if_icmp .le 49, 3) := by decide +kernel
theorem dX8_nextOf_18 : decode cX8_nextOf 18 = .ok (.aload_n 0, 1) := by decide +kernel
theorem dX8_nextOf_19 : decode cX8_nextOf 19 = .ok (.getfield 19, 3) := by decide +kernel
theorem dX8_nextOf_22 : decode cX8_nextOf 22 = .ok (.iload_n 1, 1) := by decide +kernel
theorem dX8_nextOf_23 : decode cX8_nextOf 23 = .ok (.iaload, 1) := by decide +kernel
theorem dX8_nextOf_24 : decode cX8_nextOf 24 = .ok (.ifCond .lt 40, 3) := by decide +kernel
theorem dX8_nextOf_27 : decode cX8_nextOf 27 = .ok (.aload_n 0, 1) := by decide +kernel
theorem dX8_nextOf_28 : decode cX8_nextOf 28 = .ok (.getfield 19, 3) := by decide +kernel
theorem dX8_nextOf_31 : decode cX8_nextOf 31 = .ok (.aload_n 0, 1) := by decide +kernel
theorem dX8_nextOf_32 : decode cX8_nextOf 32 = .ok (.getfield 25, 3) := by decide +kernel
theorem dX8_nextOf_35 : decode cX8_nextOf 35 = .ok (.iload_n 3, 1) := by decide +kernel
theorem dX8_nextOf_36 : decode cX8_nextOf 36 = .ok (.iaload, 1) := by decide +kernel
theorem dX8_nextOf_37 : decode cX8_nextOf 37 = .ok (.iaload, 1) := by decide +kernel
theorem dX8_nextOf_38 : decode cX8_nextOf 38 = .ok (.aload_n 0, 1) := by decide +kernel
theorem dX8_nextOf_39 : decode cX8_nextOf 39 = .ok (.getfield 19, 3) := by decide +kernel
theorem dX8_nextOf_42 : decode cX8_nextOf 42 = .ok (.iload_n 1, 1) := by decide +kernel
theorem dX8_nextOf_43 : decode cX8_nextOf 43 = .ok (.iaload, 1) := by decide +kernel
theorem dX8_nextOf_44 : decode cX8_nextOf 44 = .ok (.if_icmp .ne 12, 3) := by decide +kernel
theorem dX8_nextOf_47 : decode cX8_nextOf 47 = .ok (.aload_n 0, 1) := by decide +kernel
theorem dX8_nextOf_48 : decode cX8_nextOf 48 = .ok (.getfield 25, 3) := by decide +kernel
theorem dX8_nextOf_51 : decode cX8_nextOf 51 = .ok (.iload_n 3, 1) := by decide +kernel
theorem dX8_nextOf_52 : decode cX8_nextOf 52 = .ok (.iaload, 1) := by decide +kernel
theorem dX8_nextOf_53 : decode cX8_nextOf 53 = .ok (.goto 4, 3) := by decide +kernel
theorem dX8_nextOf_56 : decode cX8_nextOf 56 = .ok (.iload_n 2, 1) := by decide +kernel
theorem dX8_nextOf_57 : decode cX8_nextOf 57 = .ok (.istore_n 2, 1) := by decide +kernel
theorem dX8_nextOf_58 : decode cX8_nextOf 58 = .ok (.iinc 3 (-1), 3) := by decide +kernel
theorem dX8_nextOf_61 : decode cX8_nextOf 61 = .ok (.goto (-52), 3) := by decide +kernel
theorem dX8_nextOf_64 : decode cX8_nextOf 64 = .ok (.iload_n 2, 1) := by decide +kernel
theorem dX8_nextOf_65 : decode cX8_nextOf 65 = .ok (.ireturn, 1) := by decide +kernel
theorem dX8_size_0 : decode cX8_size 0 = .ok (.iconst 0, 1) := by decide +kernel
theorem dX8_size_1 : decode cX8_size 1 = .ok (.istore_n 2, 1) := by decide +kernel
theorem dX8_size_2 : decode cX8_size 2 = .ok (.iconst 0, 1) := by decide +kernel
theorem dX8_size_3 : decode cX8_size 3 = .ok (.istore_n 3, 1) := by decide +kernel
theorem dX8_size_4 : decode cX8_size 4 = .ok (.iload_n 3, 1) := by decide +kernel
theorem dX8_size_5 : decode cX8_size 5 = .ok (.aload_n 0, 1) := by decide +kernel
theorem dX8_size_6 : decode cX8_size 6 = .ok (.getfield 38, 3) := by decide +kernel
theorem dX8_size_9 : decode cX8_size 9 = .ok (.if_icmp .ge 27, 3) := by decide +kernel
theorem dX8_size_12 : decode cX8_size 12 = .ok (.iload_n 2, 1) := by decide +kernel
theorem dX8_size_13 : decode cX8_size 13 = .ok (.aload_n 0, 1) := by decide +kernel
theorem dX8_size_14 : decode cX8_size 14 = .ok (.getfield 19, 3) := by decide +kernel
theorem dX8_size_17 : decode cX8_size 17 = .ok (.iload_n 3, 1) := by decide +kernel
theorem dX8_size_18 : decode cX8_size 18 = .ok (.iaload, 1) := by decide +kernel
theorem dX8_size_19 : decode cX8_size 19 = .ok (.iload_n 1, 1) := by decide +kernel
theorem dX8_size_20 : decode cX8_size 20 = .ok (.if_icmp .ne 7, 3) := by decide +kernel
theorem dX8_size_23 : decode cX8_size 23 = .ok (.iconst 1, 1) := by decide +kernel
theorem dX8_size_24 : decode cX8_size 24 = .ok (.goto 4, 3) := by decide +kernel
theorem dX8_size_27 : decode cX8_size 27 = .ok (.iconst 0, 1) := by decide +kernel
theorem dX8_size_28 : decode cX8_size 28 = .ok (.iadd, 1) := by decide +kernel
theorem dX8_size_29 : decode cX8_size 29 = .ok (.istore_n 2, 1) := by decide +kernel
theorem dX8_size_30 : decode cX8_size 30 = .ok (.iinc 3 1, 3) := by decide +kernel
theorem dX8_size_33 : decode cX8_size 33 = .ok (.goto (-29), 3) := by decide +kernel
theorem dX8_size_36 : decode cX8_size 36 = .ok (.iload_n 2, 1) := by decide +kernel
theorem dX8_size_37 : decode cX8_size 37 = .ok (.ireturn, 1) := by decide +kernel
set_option maxRecDepth 20000 in
theorem ggX8_used_X8_size : GoodIn wsX8_used wsX8_size := goodIn_r _ [5, 6, 7, 8, 9, 10, 11, 12, 13, 14, 15, 16, 17] (by decide +kernel) (by decide +kernel)
set_option maxRecDepth 20000 in
theorem gX8_used_X8_size : GoodIn wsX8_used (wsV RX8 92 RX8 yX8_size wsX8_size) := goodIn_app (goodIn_of _ (by decide +kernel)) ggX8_used_X8_size
theorem dX8_used_0 : decode cX8_used 0 = .ok (.iconst 0, 1) := by decide +kernel
theorem dX8_used_1 : decode cX8_used 1 = .ok (.istore_n 1, 1) := by decide +kernel
theorem dX8_used_2 : decode cX8_used 2 = .ok (.iconst 0, 1) := by decide +kernel
theorem dX8_used_3 : decode cX8_used 3 = .ok (.istore_n 2, 1) := by decide +kernel
theorem dX8_used_4 : decode cX8_used 4 = .ok (.iload_n 2, 1) := by decide +kernel
theorem dX8_used_5 : decode cX8_used 5 = .ok (.iconst 4, 1) := by decide +kernel
theorem dX8_used_6 : decode cX8_used 6 = .ok (.if_icmp .ge 25, 3) := by decide +kernel
theorem dX8_used_9 : decode cX8_used 9 = .ok (.iload_n 1, 1) := by decide +kernel
theorem dX8_used_10 : decode cX8_used 10 = .ok (.aload_n 0, 1) := by decide +kernel
theorem dX8_used_11 : decode cX8_used 11 = .ok (.iload_n 2, 1) := by decide +kernel
theorem dX8_used_12 : decode cX8_used 12 = .ok (.invokevirtual 92, 3) := by decide +kernel
theorem dX8_used_15 : decode cX8_used 15 = .ok (.ifCond .le 7, 3) := by decide +kernel
theorem dX8_used_18 : decode cX8_used 18 = .ok (.iconst 1, 1) := by decide +kernel
theorem dX8_used_19 : decode cX8_used 19 = .ok (.goto 4, 3) := by decide +kernel
theorem dX8_used_22 : decode cX8_used 22 = .ok (.iconst 0, 1) := by decide +kernel
theorem dX8_used_23 : decode cX8_used 23 = .ok (.iadd, 1) := by decide +kernel
theorem dX8_used_24 : decode cX8_used 24 = .ok (.istore_n 1, 1) := by decide +kernel
theorem dX8_used_25 : decode cX8_used 25 = .ok (.iinc 2 1, 3) := by decide +kernel
theorem dX8_used_28 : decode cX8_used 28 = .ok (.goto (-24), 3) := by decide +kernel
theorem dX8_used_31 : decode cX8_used 31 = .ok (.iload_n 1, 1) := by decide +kernel
theorem dX8_used_32 : decode cX8_used 32 = .ok (.ireturn, 1) := by decide +kernel
set_option maxRecDepth 20000 in
theorem ggX8_cost_X8_isWhole : GoodIn wsX8_cost wsX8_isWhole := goodIn_r _ [10, 1, 11, 12, 13, 14, 9, 15, 16, 17, 18, 19, 3, 4, 53, 54, 55, 56, 57, 58, 59, 60, 61, 62] (by decide +kernel) (by decide +kernel)
set_option maxRecDepth 20000 in
theorem gX8_cost_X8_isWhole : GoodIn wsX8_cost (wsV RX8 95 RX8 yX8_isWhole wsX8_isWhole) := goodIn_app (goodIn_of _ (by decide +kernel)) ggX8_cost_X8_isWhole
set_option maxRecDepth 20000 in
theorem ggX8_cost_X8_nextOf : GoodIn wsX8_cost wsX8_nextOf := goodIn_r _ [23, 1, 11, 24, 25, 26, 27, 9, 28, 29, 30, 31, 32, 3, 2, 53, 54, 55, 56, 57, 58, 59, 60, 61, 62] (by decide +kernel) (by decide +kernel)
set_option maxRecDepth 20000 in
theorem gX8_cost_X8_nextOf : GoodIn wsX8_cost (wsV RX8 99 RX8 yX8_nextOf wsX8_nextOf) := goodIn_app (goodIn_of _ (by decide +kernel)) ggX8_cost_X8_nextOf
set_option maxRecDepth 20000 in
theorem ggX8_cost_X8_pairs : GoodIn wsX8_cost wsX8_pairs := goodIn_r _ [36, 37, 38, 39, 9, 40, 1, 24, 41, 42, 43, 44, 11, 2, 3, 4, 16, 17, 18, 19, 53, 54, 55, 56, 57, 58, 59, 60, 61, 62] (by decide +kernel) (by decide +kernel)
set_option maxRecDepth 20000 in
theorem gX8_cost_X8_pairs : GoodIn wsX8_cost (wsV RX8 102 RX8 yX8_pairs wsX8_pairs) := goodIn_app (goodIn_of _ (by decide +kernel)) ggX8_cost_X8_pairs
set_option maxRecDepth 20000 in
theorem ggX8_cost_X8_used : GoodIn wsX8_cost wsX8_used := goodIn_r _ [48, 49, 50, 51, 9, 52, 1, 11, 53, 54, 55, 56, 57, 58, 59, 60, 61, 62] (by decide +kernel) (by decide +kernel)
set_option maxRecDepth 20000 in
theorem gX8_cost_X8_used : GoodIn wsX8_cost (wsV RX8 105 RX8 yX8_used wsX8_used) := goodIn_app (goodIn_of _ (by decide +kernel)) ggX8_cost_X8_used
theorem dX8_cost_0 : decode cX8_cost 0 = .ok (.iload_n 1, 1) := by decide +kernel
theorem dX8_cost_1 : decode cX8_cost 1 = .ok (.ifCond .lt 8, 3) := by decide +kernel
theorem dX8_cost_4 : decode cX8_cost 4 = .ok (.iload_n 1, 1) := by decide +kernel
theorem dX8_cost_5 : decode cX8_cost 5 = .ok (.iconst 4, 1) := by decide +kernel
theorem dX8_cost_6 : decode cX8_cost 6 = .ok (.if_icmp .le 6, 3) := by decide +kernel
theorem dX8_cost_9 : decode cX8_cost 9 = .ok (.bipush (-2), 2) := by decide +kernel
theorem dX8_cost_11 : decode cX8_cost 11 = .ok (.ireturn, 1) := by decide +kernel
theorem dX8_cost_12 : decode cX8_cost 12 = .ok (.aload_n 0, 1) := by decide +kernel
theorem dX8_cost_13 : decode cX8_cost 13 = .ok (.invokevirtual 95, 3) := by decide +kernel
theorem dX8_cost_16 : decode cX8_cost 16 = .ok (.ifCond .ne 6, 3) := by decide +kernel
theorem dX8_cost_19 : decode cX8_cost 19 = .ok (.bipush (-3), 2) := by decide +kernel
theorem dX8_cost_21 : decode cX8_cost 21 = .ok (.ireturn, 1) := by decide +kernel
theorem dX8_cost_22 : decode cX8_cost 22 = .ok (.iconst 0, 1) := by decide +kernel
theorem dX8_cost_23 : decode cX8_cost 23 = .ok (.istore_n 2, 1) := by decide +kernel
theorem dX8_cost_24 : decode cX8_cost 24 = .ok (.iconst 0, 1) := by decide +kernel
theorem dX8_cost_25 : decode cX8_cost 25 = .ok (.istore_n 3, 1) := by decide +kernel
theorem dX8_cost_26 : decode cX8_cost 26 = .ok (.iconst 0, 1) := by decide +kernel
theorem dX8_cost_27 : decode cX8_cost 27 = .ok (.istore 4, 2) := by decide +kernel
theorem dX8_cost_29 : decode cX8_cost 29 = .ok (.iload 4, 2) := by decide +kernel
theorem dX8_cost_31 : decode cX8_cost 31 = .ok (.aload_n 0, 1) := by decide +kernel
theorem dX8_cost_32 : decode cX8_cost 32 = .ok (.getfield 38, 3) := by decide +kernel
theorem dX8_cost_35 : decode cX8_cost 35 = .ok (.if_icmp .ge 93, 3) := by decide +kernel
theorem dX8_cost_38 : decode cX8_cost 38 = .ok (.aload_n 0, 1) := by decide +kernel
theorem dX8_cost_39 : decode cX8_cost 39 = .ok (.iload 4, 2) := by decide +kernel
theorem dX8_cost_41 : decode cX8_cost 41 = .ok (.invokevirtual 99, 3) := by decide +kernel
theorem dX8_cost_44 : decode cX8_cost 44 = .ok (.istore 5, 2) := by decide +kernel
theorem dX8_cost_46 : decode cX8_cost 46 = .ok (.iload 5, 2) := by decide +kernel
theorem dX8_cost_48 : decode cX8_cost 48 = .ok (.ifCond .lt 74, 3) := by decide +kernel
theorem dX8_cost_51 : decode cX8_cost 51 = .ok (.iload_n 2, 1) := by decide +kernel
theorem dX8_cost_52 : decode cX8_cost 52 = .ok (.aload_n 0, 1) := by decide +kernel
theorem dX8_cost_53 : decode cX8_cost 53 = .ok (.getfield 16, 3) := by decide +kernel
theorem dX8_cost_56 : decode cX8_cost 56 = .ok (.iload 5, 2) := by decide +kernel
theorem dX8_cost_58 : decode cX8_cost 58 = .ok (.iaload, 1) := by decide +kernel
theorem dX8_cost_59 : decode cX8_cost 59 = .ok (.aload_n 0, 1) := by decide +kernel
theorem dX8_cost_60 : decode cX8_cost 60 = .ok (.getfield 16, 3) := by decide +kernel
theorem dX8_cost_63 : decode cX8_cost 63 = .ok (.iload 4, 2) := by decide +kernel
theorem dX8_cost_65 : decode cX8_cost 65 = .ok (.iaload, 1) := by decide +kernel
theorem dX8_cost_66 : decode cX8_cost 66 = .ok (.if_icmp .le 21, 3) := by decide +kernel
theorem dX8_cost_69 : decode cX8_cost 69 = .ok (.aload_n 0, 1) := by decide +kernel
theorem dX8_cost_70 : decode cX8_cost 70 = .ok (.getfield 16, 3) := by decide +kernel
theorem dX8_cost_73 : decode cX8_cost 73 = .ok (.iload 5, 2) := by decide +kernel
theorem dX8_cost_75 : decode cX8_cost 75 = .ok (.iaload, 1) := by decide +kernel
theorem dX8_cost_76 : decode cX8_cost 76 = .ok (.aload_n 0, 1) := by decide +kernel
theorem dX8_cost_77 : decode cX8_cost 77 = .ok (.getfield 16, 3) := by decide +kernel
theorem dX8_cost_80 : decode cX8_cost 80 = .ok (.iload 4, 2) := by decide +kernel
theorem dX8_cost_82 : decode cX8_cost 82 = .ok (.iaload, 1) := by decide +kernel
theorem dX8_cost_83 : decode cX8_cost 83 = .ok (.isub, 1) := by decide +kernel
theorem dX8_cost_84 : decode cX8_cost 84 = .ok (.goto 18, 3) := by decide +kernel
theorem dX8_cost_87 : decode cX8_cost 87 = .ok (.aload_n 0, 1) := by decide +kernel
theorem dX8_cost_88 : decode cX8_cost 88 = .ok (.getfield 16, 3) := by decide +kernel
theorem dX8_cost_91 : decode cX8_cost 91 = .ok (.iload 4, 2) := by decide +kernel
theorem dX8_cost_93 : decode cX8_cost 93 = .ok (.iaload, 1) := by decide +kernel
theorem dX8_cost_94 : decode cX8_cost 94 = .ok (.aload_n 0, 1) := by decide +kernel
theorem dX8_cost_95 : decode cX8_cost 95 = .ok (.getfield 16, 3) := by decide +kernel
theorem dX8_cost_98 : decode cX8_cost 98 = .ok (.iload 5, 2) := by decide +kernel
theorem dX8_cost_100 : decode cX8_cost 100 = .ok (.iaload, 1) := by decide +kernel
theorem dX8_cost_101 : decode cX8_cost 101 = .ok (.isub, 1) := by decide +kernel
theorem dX8_cost_102 : decode cX8_cost 102 = .ok (.iadd, 1) := by decide +kernel
theorem dX8_cost_103 : decode cX8_cost 103 = .ok (.istore_n 2, 1) := by decide +kernel
theorem dX8_cost_104 : decode cX8_cost 104 = .ok (.iload_n 3, 1) := by decide +kernel
theorem dX8_cost_105 : decode cX8_cost 105 = .ok (.aload_n 0, 1) := by decide +kernel
theorem dX8_cost_106 : decode cX8_cost 106 = .ok (.getfield 7, 3) := by decide +kernel
theorem dX8_cost_109 : decode cX8_cost 109 = .ok (.iload 5, 2) := by decide +kernel
theorem dX8_cost_111 : decode cX8_cost 111 = .ok (.iaload, 1) := by decide +kernel
theorem dX8_cost_112 : decode cX8_cost 112 = .ok (.aload_n 0, 1) := by decide +kernel
theorem dX8_cost_113 : decode cX8_cost 113 = .ok (.getfield 13, 3) := by decide +kernel
theorem dX8_cost_116 : decode cX8_cost 116 = .ok (.iload 4, 2) := by decide +kernel
theorem dX8_cost_118 : decode cX8_cost 118 = .ok (.iaload, 1) := by decide +kernel
theorem dX8_cost_119 : decode cX8_cost 119 = .ok (.isub, 1) := by decide +kernel
theorem dX8_cost_120 : decode cX8_cost 120 = .ok (.iadd, 1) := by decide +kernel
theorem dX8_cost_121 : decode cX8_cost 121 = .ok (.istore_n 3, 1) := by decide +kernel
theorem dX8_cost_122 : decode cX8_cost 122 = .ok (.iinc 4 1, 3) := by decide +kernel
theorem dX8_cost_125 : decode cX8_cost 125 = .ok (.goto (-96), 3) := by decide +kernel
theorem dX8_cost_128 : decode cX8_cost 128 = .ok (.iload_n 2, 1) := by decide +kernel
theorem dX8_cost_129 : decode cX8_cost 129 = .ok (.aload_n 0, 1) := by decide +kernel
theorem dX8_cost_130 : decode cX8_cost 130 = .ok (.getfield 22, 3) := by decide +kernel
theorem dX8_cost_133 : decode cX8_cost 133 = .ok (.iconst 0, 1) := by decide +kernel
theorem dX8_cost_134 : decode cX8_cost 134 = .ok (.iaload, 1) := by decide +kernel
theorem dX8_cost_135 : decode cX8_cost 135 = .ok (.imul, 1) := by decide +kernel
theorem dX8_cost_136 : decode cX8_cost 136 = .ok (.istore_n 2, 1) := by decide +kernel
theorem dX8_cost_137 : decode cX8_cost 137 = .ok (.iload_n 3, 1) := by decide +kernel
theorem dX8_cost_138 : decode cX8_cost 138 = .ok (.aload_n 0, 1) := by decide +kernel
theorem dX8_cost_139 : decode cX8_cost 139 = .ok (.getfield 22, 3) := by decide +kernel
theorem dX8_cost_142 : decode cX8_cost 142 = .ok (.iconst 1, 1) := by decide +kernel
theorem dX8_cost_143 : decode cX8_cost 143 = .ok (.iaload, 1) := by decide +kernel
theorem dX8_cost_144 : decode cX8_cost 144 = .ok (.imul, 1) := by decide +kernel
theorem dX8_cost_145 : decode cX8_cost 145 = .ok (.istore_n 3, 1) := by decide +kernel
theorem dX8_cost_146 : decode cX8_cost 146 = .ok (.aload_n 0, 1) := by decide +kernel
theorem dX8_cost_147 : decode cX8_cost 147 = .ok (.iconst 0, 1) := by decide +kernel
theorem dX8_cost_148 : decode cX8_cost 148 = .ok (.invokevirtual 102, 3) := by decide +kernel
theorem dX8_cost_151 : decode cX8_cost 151 = .ok (.aload_n 0, 1) := by decide +kernel
theorem dX8_cost_152 : decode cX8_cost 152 = .ok (.getfield 22, 3) := by decide +kernel
theorem dX8_cost_155 : decode cX8_cost 155 = .ok (.iconst 2, 1) := by decide +kernel
theorem dX8_cost_156 : decode cX8_cost 156 = .ok (.iaload, 1) := by decide +kernel
theorem dX8_cost_157 : decode cX8_cost 157 = .ok (.imul, 1) := by decide +kernel
theorem dX8_cost_158 : decode cX8_cost 158 = .ok (.istore 4, 2) := by decide +kernel
theorem dX8_cost_160 : decode cX8_cost 160 = .ok (.aload_n 0, 1) := by decide +kernel
theorem dX8_cost_161 : decode cX8_cost 161 = .ok (.invokevirtual 105, 3) := by decide +kernel
theorem dX8_cost_164 : decode cX8_cost 164 = .ok (.aload_n 0, 1) := by decide +kernel
theorem dX8_cost_165 : decode cX8_cost 165 = .ok (.getfield 22, 3) := by decide +kernel
theorem dX8_cost_168 : decode cX8_cost 168 = .ok (.iconst 3, 1) := by decide +kernel
theorem dX8_cost_169 : decode cX8_cost 169 = .ok (.iaload, 1) := by decide +kernel
theorem dX8_cost_170 : decode cX8_cost 170 = .ok (.imul, 1) := by decide +kernel
theorem dX8_cost_171 : decode cX8_cost 171 = .ok (.istore 5, 2) := by decide +kernel
theorem dX8_cost_173 : decode cX8_cost 173 = .ok (.iload_n 1, 1) := by decide +kernel
theorem dX8_cost_174 : decode cX8_cost 174 = .ok (.ifCond .ne 15, 3) := by decide +kernel
theorem dX8_cost_177 : decode cX8_cost 177 = .ok (.iload_n 2, 1) := by decide +kernel
theorem dX8_cost_178 : decode cX8_cost 178 = .ok (.iload_n 3, 1) := by decide +kernel
theorem dX8_cost_179 : decode cX8_cost 179 = .ok (.iadd, 1) := by decide +kernel
end
section
theorem dX8_cost_180 : decode cX8_cost 180 = .ok (.iload 4, 2) := by decide +kernel
theorem dX8_cost_182 : decode cX8_cost 182 = .ok (.iadd, 1) := by decide +kernel
theorem dX8_cost_183 : decode cX8_cost 183 = .ok (.iload 5, 2) := by decide +kernel
theorem dX8_cost_185 : decode cX8_cost 185 = .ok (.iadd, 1) := by decide +kernel
theorem dX8_cost_186 : decode cX8_cost 186 = .ok (.goto 33, 3) := by decide +kernel
theorem dX8_cost_189 : decode cX8_cost 189 = .ok (.iload_n 1, 1) := by decide +kernel
theorem dX8_cost_190 : decode cX8_cost 190 = .ok (.iconst 1, 1) := by decide +kernel
theorem dX8_cost_191 : decode cX8_cost 191 = .ok (.if_icmp .ne 7, 3) := by decide +kernel
theorem dX8_cost_194 : decode cX8_cost 194 = .ok (.iload_n 2, 1) := by decide +kernel
theorem dX8_cost_195 : decode cX8_cost 195 = .ok (.goto 24, 3) := by decide +kernel
theorem dX8_cost_198 : decode cX8_cost 198 = .ok (.iload_n 1, 1) := by decide +kernel
theorem dX8_cost_199 : decode cX8_cost 199 = .ok (.iconst 2, 1) := by decide +kernel
theorem dX8_cost_200 : decode cX8_cost 200 = .ok (.if_icmp .ne 7, 3) := by decide +kernel
theorem dX8_cost_203 : decode cX8_cost 203 = .ok (.iload_n 3, 1) := by decide +kernel
theorem dX8_cost_204 : decode cX8_cost 204 = .ok (.goto 15, 3) := by decide +kernel
theorem dX8_cost_207 : decode cX8_cost 207 = .ok (.iload_n 1, 1) := by decide +kernel
theorem dX8_cost_208 : decode cX8_cost 208 = .ok (.iconst 3, 1) := by decide +kernel
theorem dX8_cost_209 : decode cX8_cost 209 = .ok (.if_icmp .ne 8, 3) := by decide +kernel
theorem dX8_cost_212 : decode cX8_cost 212 = .ok (.iload 4, 2) := by decide +kernel
theorem dX8_cost_214 : decode cX8_cost 214 = .ok (.goto 5, 3) := by decide +kernel
theorem dX8_cost_217 : decode cX8_cost 217 = .ok (.iload 5, 2) := by decide +kernel
theorem dX8_cost_219 : decode cX8_cost 219 = .ok (.ireturn, 1) := by decide +kernel
set_option maxRecDepth 20000 in
theorem ggX8_of_X8_rank : GoodIn wsX8_of wsX8_rank := goodIn_r _ [10, 1, 11, 12, 13, 9, 14, 2, 4, 28, 29, 30, 31, 32, 33, 34, 35, 36, 37] (by decide +kernel) (by decide +kernel)
set_option maxRecDepth 20000 in
theorem gX8_of_X8_rank : GoodIn wsX8_of (wsV RX8 47 RX8 yX8_rank wsX8_rank) := goodIn_app (goodIn_of _ (by decide +kernel)) ggX8_of_X8_rank
set_option maxRecDepth 20000 in
theorem ggX8_of_X8_nextOf : GoodIn wsX8_of wsX8_nextOf := goodIn_r _ [18, 1, 5, 19, 6, 7, 8, 9, 10, 11, 12, 13, 14, 2, 4, 28, 29, 30, 31, 32, 33, 34, 35, 36, 37] (by decide +kernel) (by decide +kernel)
set_option maxRecDepth 20000 in
theorem gX8_of_X8_nextOf : GoodIn wsX8_of (wsV RX8 99 RX8 yX8_nextOf wsX8_nextOf) := goodIn_app (goodIn_of _ (by decide +kernel)) ggX8_of_X8_nextOf
set_option maxRecDepth 20000 in
theorem ggX8_of_X8_clashes : GoodIn wsX8_of wsX8_clashes := goodIn_r _ [23, 1, 5, 24, 25, 26, 9, 27, 2, 3, 28, 29, 30, 31, 32, 33, 34, 35, 36, 37] (by decide +kernel) (by decide +kernel)
set_option maxRecDepth 20000 in
theorem gX8_of_X8_clashes : GoodIn wsX8_of (wsV RX8 89 RX8 yX8_clashes wsX8_clashes) := goodIn_app (goodIn_of _ (by decide +kernel)) ggX8_of_X8_clashes
theorem dX8_of_0 : decode cX8_of 0 = .ok (.iload_n 1, 1) := by decide +kernel
theorem dX8_of_1 : decode cX8_of 1 = .ok (.ifCond .lt 21, 3) := by decide +kernel
theorem dX8_of_4 : decode cX8_of 4 = .ok (.iload_n 1, 1) := by decide +kernel
theorem dX8_of_5 : decode cX8_of 5 = .ok (.aload_n 0, 1) := by decide +kernel
theorem dX8_of_6 : decode cX8_of 6 = .ok (.getfield 38, 3) := by decide +kernel
theorem dX8_of_9 : decode cX8_of 9 = .ok (.if_icmp .ge 13, 3) := by decide +kernel
theorem dX8_of_12 : decode cX8_of 12 = .ok (.iload_n 2, 1) := by decide +kernel
theorem dX8_of_13 : decode cX8_of 13 = .ok (.ifCond .lt 9, 3) := by decide +kernel
theorem dX8_of_16 : decode cX8_of 16 = .ok (.iload_n 2, 1) := by decide +kernel
theorem dX8_of_17 : decode cX8_of 17 = .ok (.bipush 6, 2) := by decide +kernel
theorem dX8_of_19 : decode cX8_of 19 = .ok (.if_icmp .le 6, 3) := by decide +kernel
theorem dX8_of_22 : decode cX8_of 22 = .ok (.bipush (-2), 2) := by decide +kernel
theorem dX8_of_24 : decode cX8_of 24 = .ok (.ireturn, 1) := by decide +kernel
theorem dX8_of_25 : decode cX8_of 25 = .ok (.iload_n 2, 1) := by decide +kernel
theorem dX8_of_26 : decode cX8_of 26 = .ok (.tableswitch 78 0 5 #[38, 45, 52, 59, 66, 72], 38) := by decide +kernel
theorem dX8_of_64 : decode cX8_of 64 = .ok (.aload_n 0, 1) := by decide +kernel
theorem dX8_of_65 : decode cX8_of 65 = .ok (.getfield 7, 3) := by decide +kernel
theorem dX8_of_68 : decode cX8_of 68 = .ok (.iload_n 1, 1) := by decide +kernel
theorem dX8_of_69 : decode cX8_of 69 = .ok (.iaload, 1) := by decide +kernel
theorem dX8_of_70 : decode cX8_of 70 = .ok (.ireturn, 1) := by decide +kernel
theorem dX8_of_71 : decode cX8_of 71 = .ok (.aload_n 0, 1) := by decide +kernel
theorem dX8_of_72 : decode cX8_of 72 = .ok (.getfield 13, 3) := by decide +kernel
theorem dX8_of_75 : decode cX8_of 75 = .ok (.iload_n 1, 1) := by decide +kernel
theorem dX8_of_76 : decode cX8_of 76 = .ok (.iaload, 1) := by decide +kernel
theorem dX8_of_77 : decode cX8_of 77 = .ok (.ireturn, 1) := by decide +kernel
theorem dX8_of_78 : decode cX8_of 78 = .ok (.aload_n 0, 1) := by decide +kernel
theorem dX8_of_79 : decode cX8_of 79 = .ok (.getfield 16, 3) := by decide +kernel
theorem dX8_of_82 : decode cX8_of 82 = .ok (.iload_n 1, 1) := by decide +kernel
theorem dX8_of_83 : decode cX8_of 83 = .ok (.iaload, 1) := by decide +kernel
theorem dX8_of_84 : decode cX8_of 84 = .ok (.ireturn, 1) := by decide +kernel
theorem dX8_of_85 : decode cX8_of 85 = .ok (.aload_n 0, 1) := by decide +kernel
theorem dX8_of_86 : decode cX8_of 86 = .ok (.getfield 19, 3) := by decide +kernel
theorem dX8_of_89 : decode cX8_of 89 = .ok (.iload_n 1, 1) := by decide +kernel
theorem dX8_of_90 : decode cX8_of 90 = .ok (.iaload, 1) := by decide +kernel
theorem dX8_of_91 : decode cX8_of 91 = .ok (.ireturn, 1) := by decide +kernel
theorem dX8_of_92 : decode cX8_of 92 = .ok (.aload_n 0, 1) := by decide +kernel
theorem dX8_of_93 : decode cX8_of 93 = .ok (.iload_n 1, 1) := by decide +kernel
theorem dX8_of_94 : decode cX8_of 94 = .ok (.invokevirtual 47, 3) := by decide +kernel
theorem dX8_of_97 : decode cX8_of 97 = .ok (.ireturn, 1) := by decide +kernel
theorem dX8_of_98 : decode cX8_of 98 = .ok (.aload_n 0, 1) := by decide +kernel
theorem dX8_of_99 : decode cX8_of 99 = .ok (.iload_n 1, 1) := by decide +kernel
theorem dX8_of_100 : decode cX8_of 100 = .ok (.invokevirtual 99, 3) := by decide +kernel
theorem dX8_of_103 : decode cX8_of 103 = .ok (.ireturn, 1) := by decide +kernel
theorem dX8_of_104 : decode cX8_of 104 = .ok (.aload_n 0, 1) := by decide +kernel
theorem dX8_of_105 : decode cX8_of 105 = .ok (.iload_n 1, 1) := by decide +kernel
theorem dX8_of_106 : decode cX8_of 106 = .ok (.invokevirtual 89, 3) := by decide +kernel
theorem dX8_of_109 : decode cX8_of 109 = .ok (.ireturn, 1) := by decide +kernel
theorem dX8_ranked_0 : decode cX8_ranked 0 = .ok (.iload_n 1, 1) := by decide +kernel
theorem dX8_ranked_1 : decode cX8_ranked 1 = .ok (.ifCond .lt 11, 3) := by decide +kernel
theorem dX8_ranked_4 : decode cX8_ranked 4 = .ok (.iload_n 1, 1) := by decide +kernel
theorem dX8_ranked_5 : decode cX8_ranked 5 = .ok (.aload_n 0, 1) := by decide +kernel
theorem dX8_ranked_6 : decode cX8_ranked 6 = .ok (.getfield 38, 3) := by decide +kernel
theorem dX8_ranked_9 : decode cX8_ranked 9 = .ok (.if_icmp .lt 8, 3) := by decide +kernel
theorem dX8_ranked_12 : decode cX8_ranked 12 = .ok (.bipush (-2), 2) := by decide +kernel
theorem dX8_ranked_14 : decode cX8_ranked 14 = .ok (.goto 9, 3) := by decide +kernel
theorem dX8_ranked_17 : decode cX8_ranked 17 = .ok (.aload_n 0, 1) := by decide +kernel
theorem dX8_ranked_18 : decode cX8_ranked 18 = .ok (.getfield 25, 3) := by decide +kernel
theorem dX8_ranked_21 : decode cX8_ranked 21 = .ok (.iload_n 1, 1) := by decide +kernel
theorem dX8_ranked_22 : decode cX8_ranked 22 = .ok (.iaload, 1) := by decide +kernel
theorem dX8_ranked_23 : decode cX8_ranked 23 = .ok (.ireturn, 1) := by decide +kernel
theorem dX8_at_0 : decode cX8_at 0 = .ok (.iconst 0, 1) := by decide +kernel
theorem dX8_at_1 : decode cX8_at 1 = .ok (.istore_n 2, 1) := by decide +kernel
theorem dX8_at_2 : decode cX8_at 2 = .ok (.iconst 0, 1) := by decide +kernel
theorem dX8_at_3 : decode cX8_at 3 = .ok (.istore_n 3, 1) := by decide +kernel
theorem dX8_at_4 : decode cX8_at 4 = .ok (.iload_n 3, 1) := by decide +kernel
theorem dX8_at_5 : decode cX8_at 5 = .ok (.aload_n 0, 1) := by decide +kernel
theorem dX8_at_6 : decode cX8_at 6 = .ok (.getfield 38, 3) := by decide +kernel
theorem dX8_at_9 : decode cX8_at 9 = .ok (.if_icmp .ge 37, 3) := by decide +kernel
theorem dX8_at_12 : decode cX8_at 12 = .ok (.iload_n 2, 1) := by decide +kernel
theorem dX8_at_13 : decode cX8_at 13 = .ok (.aload_n 0, 1) := by decide +kernel
theorem dX8_at_14 : decode cX8_at 14 = .ok (.getfield 7, 3) := by decide +kernel
theorem dX8_at_17 : decode cX8_at 17 = .ok (.iload_n 3, 1) := by decide +kernel
theorem dX8_at_18 : decode cX8_at 18 = .ok (.iaload, 1) := by decide +kernel
theorem dX8_at_19 : decode cX8_at 19 = .ok (.iload_n 1, 1) := by decide +kernel
theorem dX8_at_20 : decode cX8_at 20 = .ok (.if_icmp .gt 17, 3) := by decide +kernel
theorem dX8_at_23 : decode cX8_at 23 = .ok (.iload_n 1, 1) := by decide +kernel
theorem dX8_at_24 : decode cX8_at 24 = .ok (.aload_n 0, 1) := by decide +kernel
theorem dX8_at_25 : decode cX8_at 25 = .ok (.getfield 13, 3) := by decide +kernel
theorem dX8_at_28 : decode cX8_at 28 = .ok (.iload_n 3, 1) := by decide +kernel
theorem dX8_at_29 : decode cX8_at 29 = .ok (.iaload, 1) := by decide +kernel
theorem dX8_at_30 : decode cX8_at 30 = .ok (.if_icmp .ge 7, 3) := by decide +kernel
theorem dX8_at_33 : decode cX8_at 33 = .ok (.iconst 1, 1) := by decide +kernel
theorem dX8_at_34 : decode cX8_at 34 = .ok (.goto 4, 3) := by decide +kernel
theorem dX8_at_37 : decode cX8_at 37 = .ok (.iconst 0, 1) := by decide +kernel
theorem dX8_at_38 : decode cX8_at 38 = .ok (.iadd, 1) := by decide +kernel
theorem dX8_at_39 : decode cX8_at 39 = .ok (.istore_n 2, 1) := by decide +kernel
theorem dX8_at_40 : decode cX8_at 40 = .ok (.iinc 3 1, 3) := by decide +kernel
theorem dX8_at_43 : decode cX8_at 43 = .ok (.goto (-39), 3) := by decide +kernel
theorem dX8_at_46 : decode cX8_at 46 = .ok (.iload_n 2, 1) := by decide +kernel
theorem dX8_at_47 : decode cX8_at 47 = .ok (.ireturn, 1) := by decide +kernel
set_option maxRecDepth 20000 in
theorem ggX8_sounding_X8_at : GoodIn wsX8_sounding wsX8_at := goodIn_r _ [6, 7, 8, 9, 10, 11, 12, 13, 14, 15, 16, 17, 18, 19] (by decide +kernel) (by decide +kernel)
set_option maxRecDepth 20000 in
theorem gX8_sounding_X8_at : GoodIn wsX8_sounding (wsV RX8 109 RX8 yX8_at wsX8_at) := goodIn_app (goodIn_of _ (by decide +kernel)) ggX8_sounding_X8_at
theorem dX8_sounding_0 : decode cX8_sounding 0 = .ok (.iload_n 1, 1) := by decide +kernel
theorem dX8_sounding_1 : decode cX8_sounding 1 = .ok (.ifCond .lt 9, 3) := by decide +kernel
theorem dX8_sounding_4 : decode cX8_sounding 4 = .ok (.iload_n 1, 1) := by decide +kernel
theorem dX8_sounding_5 : decode cX8_sounding 5 = .ok (.ldc 42, 2) := by decide +kernel
theorem dX8_sounding_7 : decode cX8_sounding 7 = .ok (.if_icmp .le 8, 3) := by decide +kernel
theorem dX8_sounding_10 : decode cX8_sounding 10 = .ok (.bipush (-2), 2) := by decide +kernel
theorem dX8_sounding_12 : decode cX8_sounding 12 = .ok (.goto 8, 3) := by decide +kernel
theorem dX8_sounding_15 : decode cX8_sounding 15 = .ok (.aload_n 0, 1) := by decide +kernel
theorem dX8_sounding_16 : decode cX8_sounding 16 = .ok (.iload_n 1, 1) := by decide +kernel
theorem dX8_sounding_17 : decode cX8_sounding 17 = .ok (.invokevirtual 109, 3) := by decide +kernel
theorem dX8_sounding_20 : decode cX8_sounding 20 = .ok (.ireturn, 1) := by decide +kernel
set_option maxRecDepth 20000 in
theorem ggX8_needed_X8_at : GoodIn wsX8_needed wsX8_at := goodIn_r _ [7, 1, 2, 8, 9, 10, 11, 12, 13, 14, 15, 16, 17, 18] (by decide +kernel) (by decide +kernel)
set_option maxRecDepth 20000 in
theorem gX8_needed_X8_at : GoodIn wsX8_needed (wsV RX8 109 RX8 yX8_at wsX8_at) := goodIn_app (goodIn_of _ (by decide +kernel)) ggX8_needed_X8_at
theorem dX8_needed_0 : decode cX8_needed 0 = .ok (.iconst 0, 1) := by decide +kernel
theorem dX8_needed_1 : decode cX8_needed 1 = .ok (.istore_n 1, 1) := by decide +kernel
theorem dX8_needed_2 : decode cX8_needed 2 = .ok (.iconst 0, 1) := by decide +kernel
theorem dX8_needed_3 : decode cX8_needed 3 = .ok (.istore_n 2, 1) := by decide +kernel
theorem dX8_needed_4 : decode cX8_needed 4 = .ok (.iload_n 2, 1) := by decide +kernel
theorem dX8_needed_5 : decode cX8_needed 5 = .ok (.aload_n 0, 1) := by decide +kernel
theorem dX8_needed_6 : decode cX8_needed 6 = .ok (.getfield 38, 3) := by decide +kernel
theorem dX8_needed_9 : decode cX8_needed 9 = .ok (.if_icmp .ge 38, 3) := by decide +kernel
theorem dX8_needed_12 : decode cX8_needed 12 = .ok (.aload_n 0, 1) := by decide +kernel
theorem dX8_needed_13 : decode cX8_needed 13 = .ok (.aload_n 0, 1) := by decide +kernel
theorem dX8_needed_14 : decode cX8_needed 14 = .ok (.getfield 7, 3) := by decide +kernel
theorem dX8_needed_17 : decode cX8_needed 17 = .ok (.iload_n 2, 1) := by decide +kernel
theorem dX8_needed_18 : decode cX8_needed 18 = .ok (.iaload, 1) := by decide +kernel
theorem dX8_needed_19 : decode cX8_needed 19 = .ok (.invokevirtual 109, 3) := by decide +kernel
theorem dX8_needed_22 : decode cX8_needed 22 = .ok (.iload_n 1, 1) := by decide +kernel
theorem dX8_needed_23 : decode cX8_needed 23 = .ok (.if_icmp .le 16, 3) := by decide +kernel
theorem dX8_needed_26 : decode cX8_needed 26 = .ok (.aload_n 0, 1) := by decide +kernel
theorem dX8_needed_27 : decode cX8_needed 27 = .ok (.aload_n 0, 1) := by decide +kernel
theorem dX8_needed_28 : decode cX8_needed 28 = .ok (.getfield 7, 3) := by decide +kernel
theorem dX8_needed_31 : decode cX8_needed 31 = .ok (.iload_n 2, 1) := by decide +kernel
theorem dX8_needed_32 : decode cX8_needed 32 = .ok (.iaload, 1) := by decide +kernel
theorem dX8_needed_33 : decode cX8_needed 33 = .ok (.invokevirtual 109, 3) := by decide +kernel
theorem dX8_needed_36 : decode cX8_needed 36 = .ok (.goto 4, 3) := by decide +kernel
theorem dX8_needed_39 : decode cX8_needed 39 = .ok (.iload_n 1, 1) := by decide +kernel
theorem dX8_needed_40 : decode cX8_needed 40 = .ok (.istore_n 1, 1) := by decide +kernel
theorem dX8_needed_41 : decode cX8_needed 41 = .ok (.iinc 2 1, 3) := by decide +kernel
theorem dX8_needed_44 : decode cX8_needed 44 = .ok (.goto (-40), 3) := by decide +kernel
theorem dX8_needed_47 : decode cX8_needed 47 = .ok (.iload_n 1, 1) := by decide +kernel
theorem dX8_needed_48 : decode cX8_needed 48 = .ok (.ireturn, 1) := by decide +kernel
theorem dX8_theEnd_0 : decode cX8_theEnd 0 = .ok (.iconst 0, 1) := by decide +kernel
theorem dX8_theEnd_1 : decode cX8_theEnd 1 = .ok (.istore_n 1, 1) := by decide +kernel
theorem dX8_theEnd_2 : decode cX8_theEnd 2 = .ok (.iconst 0, 1) := by decide +kernel
theorem dX8_theEnd_3 : decode cX8_theEnd 3 = .ok (.istore_n 2, 1) := by decide +kernel
theorem dX8_theEnd_4 : decode cX8_theEnd 4 = .ok (.iload_n 2, 1) := by decide +kernel
theorem dX8_theEnd_5 : decode cX8_theEnd 5 = .ok (.aload_n 0, 1) := by decide +kernel
theorem dX8_theEnd_6 : decode cX8_theEnd 6 = .ok (.getfield 38, 3) := by decide +kernel
theorem dX8_theEnd_9 : decode cX8_theEnd 9 = .ok (.if_icmp .ge 30, 3) := by decide +kernel
theorem dX8_theEnd_12 : decode cX8_theEnd 12 = .ok (.aload_n 0, 1) := by decide +kernel
theorem dX8_theEnd_13 : decode cX8_theEnd 13 = .ok (.getfield 13, 3) := by decide +kernel
theorem dX8_theEnd_16 : decode cX8_theEnd 16 = .ok (.iload_n 2, 1) := by decide +kernel
theorem dX8_theEnd_17 : decode cX8_theEnd 17 = .ok (.iaload, 1) := by decide +kernel
theorem dX8_theEnd_18 : decode cX8_theEnd 18 = .ok (.iload_n 1, 1) := by decide +kernel
theorem dX8_theEnd_19 : decode cX8_theEnd 19 = .ok (.if_icmp .le 12, 3) := by decide +kernel
theorem dX8_theEnd_22 : decode cX8_theEnd 22 = .ok (.aload_n 0, 1) := by decide +kernel
theorem dX8_theEnd_23 : decode cX8_theEnd 23 = .ok (.getfield 13, 3) := by decide +kernel
theorem dX8_theEnd_26 : decode cX8_theEnd 26 = .ok (.iload_n 2, 1) := by decide +kernel
theorem dX8_theEnd_27 : decode cX8_theEnd 27 = .ok (.iaload, 1) := by decide +kernel
theorem dX8_theEnd_28 : decode cX8_theEnd 28 = .ok (.goto 4, 3) := by decide +kernel
theorem dX8_theEnd_31 : decode cX8_theEnd 31 = .ok (.iload_n 1, 1) := by decide +kernel
theorem dX8_theEnd_32 : decode cX8_theEnd 32 = .ok (.istore_n 1, 1) := by decide +kernel
theorem dX8_theEnd_33 : decode cX8_theEnd 33 = .ok (.iinc 2 1, 3) := by decide +kernel
theorem dX8_theEnd_36 : decode cX8_theEnd 36 = .ok (.goto (-32), 3) := by decide +kernel
theorem dX8_theEnd_39 : decode cX8_theEnd 39 = .ok (.iload_n 1, 1) := by decide +kernel
theorem dX8_theEnd_40 : decode cX8_theEnd 40 = .ok (.ireturn, 1) := by decide +kernel
theorem dX8_isOf_0 : decode cX8_isOf 0 = .ok (.iload_n 2, 1) := by decide +kernel
theorem dX8_isOf_1 : decode cX8_isOf 1 = .ok (.iconst 4, 1) := by decide +kernel
theorem dX8_isOf_2 : decode cX8_isOf 2 = .ok (.if_icmp .ne 20, 3) := by decide +kernel
theorem dX8_isOf_5 : decode cX8_isOf 5 = .ok (.aload_n 0, 1) := by decide +kernel
theorem dX8_isOf_6 : decode cX8_isOf 6 = .ok (.getfield 19, 3) := by decide +kernel
theorem dX8_isOf_9 : decode cX8_isOf 9 = .ok (.iload_n 1, 1) := by decide +kernel
theorem dX8_isOf_10 : decode cX8_isOf 10 = .ok (.iaload, 1) := by decide +kernel
theorem dX8_isOf_11 : decode cX8_isOf 11 = .ok (.ifCond .lt 7, 3) := by decide +kernel
theorem dX8_isOf_14 : decode cX8_isOf 14 = .ok (.iconst 1, 1) := by decide +kernel
theorem dX8_isOf_15 : decode cX8_isOf 15 = .ok (.goto 22, 3) := by decide +kernel
theorem dX8_isOf_18 : decode cX8_isOf 18 = .ok (.iconst 0, 1) := by decide +kernel
theorem dX8_isOf_19 : decode cX8_isOf 19 = .ok (.goto 18, 3) := by decide +kernel
theorem dX8_isOf_22 : decode cX8_isOf 22 = .ok (.aload_n 0, 1) := by decide +kernel
theorem dX8_isOf_23 : decode cX8_isOf 23 = .ok (.getfield 19, 3) := by decide +kernel
theorem dX8_isOf_26 : decode cX8_isOf 26 = .ok (.iload_n 1, 1) := by decide +kernel
theorem dX8_isOf_27 : decode cX8_isOf 27 = .ok (.iaload, 1) := by decide +kernel
theorem dX8_isOf_28 : decode cX8_isOf 28 = .ok (.iload_n 2, 1) := by decide +kernel
theorem dX8_isOf_29 : decode cX8_isOf 29 = .ok (.if_icmp .ne 7, 3) := by decide +kernel
theorem dX8_isOf_32 : decode cX8_isOf 32 = .ok (.iconst 1, 1) := by decide +kernel
theorem dX8_isOf_33 : decode cX8_isOf 33 = .ok (.goto 4, 3) := by decide +kernel
theorem dX8_isOf_36 : decode cX8_isOf 36 = .ok (.iconst 0, 1) := by decide +kernel
theorem dX8_isOf_37 : decode cX8_isOf 37 = .ok (.ireturn, 1) := by decide +kernel
set_option maxRecDepth 20000 in
theorem ggX8_silence_X8_isOf : GoodIn wsX8_silence wsX8_isOf := goodIn_r _ [8, 9, 10, 11, 12, 13, 14, 15, 16, 17, 18, 19] (by decide +kernel) (by decide +kernel)
set_option maxRecDepth 20000 in
theorem gX8_silence_X8_isOf : GoodIn wsX8_silence (wsV RX8 112 RX8 yX8_isOf wsX8_isOf) := goodIn_app (goodIn_of _ (by decide +kernel)) ggX8_silence_X8_isOf
theorem dX8_silence_0 : decode cX8_silence 0 = .ok (.iload_n 2, 1) := by decide +kernel
theorem dX8_silence_1 : decode cX8_silence 1 = .ok (.istore_n 3, 1) := by decide +kernel
theorem dX8_silence_2 : decode cX8_silence 2 = .ok (.iconst 1, 1) := by decide +kernel
theorem dX8_silence_3 : decode cX8_silence 3 = .ok (.istore 4, 2) := by decide +kernel
theorem dX8_silence_5 : decode cX8_silence 5 = .ok (.iload 4, 2) := by decide +kernel
theorem dX8_silence_7 : decode cX8_silence 7 = .ok (.ifCond .eq 70, 3) := by decide +kernel
theorem dX8_silence_10 : decode cX8_silence 10 = .ok (.iconst 0, 1) := by decide +kernel
theorem dX8_silence_11 : decode cX8_silence 11 = .ok (.istore 4, 2) := by decide +kernel
theorem dX8_silence_13 : decode cX8_silence 13 = .ok (.iconst 0, 1) := by decide +kernel
theorem dX8_silence_14 : decode cX8_silence 14 = .ok (.istore 5, 2) := by decide +kernel
theorem dX8_silence_16 : decode cX8_silence 16 = .ok (.iload 5, 2) := by decide +kernel
theorem dX8_silence_18 : decode cX8_silence 18 = .ok (.aload_n 0, 1) := by decide +kernel
theorem dX8_silence_19 : decode cX8_silence 19 = .ok (.getfield 38, 3) := by decide +kernel
theorem dX8_silence_22 : decode cX8_silence 22 = .ok (.if_icmp .ge 52, 3) := by decide +kernel
theorem dX8_silence_25 : decode cX8_silence 25 = .ok (.aload_n 0, 1) := by decide +kernel
theorem dX8_silence_26 : decode cX8_silence 26 = .ok (.iload 5, 2) := by decide +kernel
theorem dX8_silence_28 : decode cX8_silence 28 = .ok (.iload_n 1, 1) := by decide +kernel
theorem dX8_silence_29 : decode cX8_silence 29 = .ok (.invokevirtual 112, 3) := by decide +kernel
theorem dX8_silence_32 : decode cX8_silence 32 = .ok (.ifCond .eq 36, 3) := by decide +kernel
theorem dX8_silence_35 : decode cX8_silence 35 = .ok (.aload_n 0, 1) := by decide +kernel
theorem dX8_silence_36 : decode cX8_silence 36 = .ok (.getfield 7, 3) := by decide +kernel
theorem dX8_silence_39 : decode cX8_silence 39 = .ok (.iload 5, 2) := by decide +kernel
theorem dX8_silence_41 : decode cX8_silence 41 = .ok (.iaload, 1) := by decide +kernel
theorem dX8_silence_42 : decode cX8_silence 42 = .ok (.iload_n 3, 1) := by decide +kernel
theorem dX8_silence_43 : decode cX8_silence 43 = .ok (.if_icmp .gt 25, 3) := by decide +kernel
theorem dX8_silence_46 : decode cX8_silence 46 = .ok (.iload_n 3, 1) := by decide +kernel
theorem dX8_silence_47 : decode cX8_silence 47 = .ok (.aload_n 0, 1) := by decide +kernel
theorem dX8_silence_48 : decode cX8_silence 48 = .ok (.getfield 13, 3) := by decide +kernel
theorem dX8_silence_51 : decode cX8_silence 51 = .ok (.iload 5, 2) := by decide +kernel
theorem dX8_silence_53 : decode cX8_silence 53 = .ok (.iaload, 1) := by decide +kernel
theorem dX8_silence_54 : decode cX8_silence 54 = .ok (.if_icmp .ge 14, 3) := by decide +kernel
theorem dX8_silence_57 : decode cX8_silence 57 = .ok (.aload_n 0, 1) := by decide +kernel
theorem dX8_silence_58 : decode cX8_silence 58 = .ok (.getfield 13, 3) := by decide +kernel
theorem dX8_silence_61 : decode cX8_silence 61 = .ok (.iload 5, 2) := by decide +kernel
theorem dX8_silence_63 : decode cX8_silence 63 = .ok (.iaload, 1) := by decide +kernel
theorem dX8_silence_64 : decode cX8_silence 64 = .ok (.istore_n 3, 1) := by decide +kernel
theorem dX8_silence_65 : decode cX8_silence 65 = .ok (.iconst 1, 1) := by decide +kernel
theorem dX8_silence_66 : decode cX8_silence 66 = .ok (.istore 4, 2) := by decide +kernel
theorem dX8_silence_68 : decode cX8_silence 68 = .ok (.iinc 5 1, 3) := by decide +kernel
theorem dX8_silence_71 : decode cX8_silence 71 = .ok (.goto (-55), 3) := by decide +kernel
theorem dX8_silence_74 : decode cX8_silence 74 = .ok (.goto (-69), 3) := by decide +kernel
theorem dX8_silence_77 : decode cX8_silence 77 = .ok (.iload_n 3, 1) := by decide +kernel
theorem dX8_silence_78 : decode cX8_silence 78 = .ok (.ireturn, 1) := by decide +kernel
set_option maxRecDepth 20000 in
theorem ggX8_sound_X8_theEnd : GoodIn wsX8_sound wsX8_theEnd := goodIn_r _ [7, 1, 8, 14, 15, 16, 17, 18, 19, 20, 21, 22, 23] (by decide +kernel) (by decide +kernel)
set_option maxRecDepth 20000 in
theorem gX8_sound_X8_theEnd : GoodIn wsX8_sound (wsV RX8 115 RX8 yX8_theEnd wsX8_theEnd) := goodIn_app (goodIn_of _ (by decide +kernel)) ggX8_sound_X8_theEnd
set_option maxRecDepth 20000 in
theorem ggX8_sound_X8_isOf : GoodIn wsX8_sound wsX8_isOf := goodIn_r _ [12, 13, 14, 15, 16, 17, 18, 19, 20, 21, 22, 23] (by decide +kernel) (by decide +kernel)
set_option maxRecDepth 20000 in
theorem gX8_sound_X8_isOf : GoodIn wsX8_sound (wsV RX8 112 RX8 yX8_isOf wsX8_isOf) := goodIn_app (goodIn_of _ (by decide +kernel)) ggX8_sound_X8_isOf
theorem dX8_sound_0 : decode cX8_sound 0 = .ok (.aload_n 0, 1) := by decide +kernel
theorem dX8_sound_1 : decode cX8_sound 1 = .ok (.invokevirtual 115, 3) := by decide +kernel
theorem dX8_sound_4 : decode cX8_sound 4 = .ok (.istore_n 3, 1) := by decide +kernel
theorem dX8_sound_5 : decode cX8_sound 5 = .ok (.iconst 0, 1) := by decide +kernel
theorem dX8_sound_6 : decode cX8_sound 6 = .ok (.istore 4, 2) := by decide +kernel
theorem dX8_sound_8 : decode cX8_sound 8 = .ok (.iload 4, 2) := by decide +kernel
theorem dX8_sound_10 : decode cX8_sound 10 = .ok (.aload_n 0, 1) := by decide +kernel
theorem dX8_sound_11 : decode cX8_sound 11 = .ok (.getfield 38, 3) := by decide +kernel
theorem dX8_sound_14 : decode cX8_sound 14 = .ok (.if_icmp .ge 53, 3) := by decide +kernel
theorem dX8_sound_17 : decode cX8_sound 17 = .ok (.aload_n 0, 1) := by decide +kernel
theorem dX8_sound_18 : decode cX8_sound 18 = .ok (.iload 4, 2) := by decide +kernel
theorem dX8_sound_20 : decode cX8_sound 20 = .ok (.iload_n 1, 1) := by decide +kernel
theorem dX8_sound_21 : decode cX8_sound 21 = .ok (.invokevirtual 112, 3) := by decide +kernel
theorem dX8_sound_24 : decode cX8_sound 24 = .ok (.ifCond .eq 35, 3) := by decide +kernel
theorem dX8_sound_27 : decode cX8_sound 27 = .ok (.aload_n 0, 1) := by decide +kernel
theorem dX8_sound_28 : decode cX8_sound 28 = .ok (.getfield 7, 3) := by decide +kernel
theorem dX8_sound_31 : decode cX8_sound 31 = .ok (.iload 4, 2) := by decide +kernel
theorem dX8_sound_33 : decode cX8_sound 33 = .ok (.iaload, 1) := by decide +kernel
theorem dX8_sound_34 : decode cX8_sound 34 = .ok (.iload_n 2, 1) := by decide +kernel
theorem dX8_sound_35 : decode cX8_sound 35 = .ok (.if_icmp .lt 24, 3) := by decide +kernel
theorem dX8_sound_38 : decode cX8_sound 38 = .ok (.aload_n 0, 1) := by decide +kernel
theorem dX8_sound_39 : decode cX8_sound 39 = .ok (.getfield 7, 3) := by decide +kernel
theorem dX8_sound_42 : decode cX8_sound 42 = .ok (.iload 4, 2) := by decide +kernel
theorem dX8_sound_44 : decode cX8_sound 44 = .ok (.iaload, 1) := by decide +kernel
theorem dX8_sound_45 : decode cX8_sound 45 = .ok (.iload_n 3, 1) := by decide +kernel
theorem dX8_sound_46 : decode cX8_sound 46 = .ok (.if_icmp .ge 13, 3) := by decide +kernel
theorem dX8_sound_49 : decode cX8_sound 49 = .ok (.aload_n 0, 1) := by decide +kernel
theorem dX8_sound_50 : decode cX8_sound 50 = .ok (.getfield 7, 3) := by decide +kernel
theorem dX8_sound_53 : decode cX8_sound 53 = .ok (.iload 4, 2) := by decide +kernel
theorem dX8_sound_55 : decode cX8_sound 55 = .ok (.iaload, 1) := by decide +kernel
theorem dX8_sound_56 : decode cX8_sound 56 = .ok (.goto 4, 3) := by decide +kernel
theorem dX8_sound_59 : decode cX8_sound 59 = .ok (.iload_n 3, 1) := by decide +kernel
theorem dX8_sound_60 : decode cX8_sound 60 = .ok (.istore_n 3, 1) := by decide +kernel
theorem dX8_sound_61 : decode cX8_sound 61 = .ok (.iinc 4 1, 3) := by decide +kernel
theorem dX8_sound_64 : decode cX8_sound 64 = .ok (.goto (-56), 3) := by decide +kernel
theorem dX8_sound_67 : decode cX8_sound 67 = .ok (.iload_n 3, 1) := by decide +kernel
theorem dX8_sound_68 : decode cX8_sound 68 = .ok (.ireturn, 1) := by decide +kernel
set_option maxRecDepth 20000 in
theorem ggX8_restOf_X8_theEnd : GoodIn wsX8_restOf wsX8_theEnd := goodIn_r _ [5, 6, 7, 22, 23, 24, 25, 26, 27, 28, 29, 30, 31] (by decide +kernel) (by decide +kernel)
set_option maxRecDepth 20000 in
theorem gX8_restOf_X8_theEnd : GoodIn wsX8_restOf (wsV RX8 115 RX8 yX8_theEnd wsX8_theEnd) := goodIn_app (goodIn_of _ (by decide +kernel)) ggX8_restOf_X8_theEnd
set_option maxRecDepth 20000 in
theorem ggX8_restOf_X8_silence : GoodIn wsX8_restOf wsX8_silence := goodIn_r _ [11, 6, 12, 7, 13, 14, 15, 4, 16, 17, 22, 23, 24, 25, 26, 27, 28, 29, 30, 31] (by decide +kernel) (by decide +kernel)
set_option maxRecDepth 20000 in
theorem gX8_restOf_X8_silence : GoodIn wsX8_restOf (wsV RX8 118 RX8 yX8_silence wsX8_silence) := goodIn_app (goodIn_of _ (by decide +kernel)) ggX8_restOf_X8_silence
set_option maxRecDepth 20000 in
theorem ggX8_restOf_X8_sound : GoodIn wsX8_restOf wsX8_sound := goodIn_r _ [21, 6, 12, 1, 2, 3, 4, 5, 7, 13, 14, 15, 16, 17, 22, 23, 24, 25, 26, 27, 28, 29, 30, 31] (by decide +kernel) (by decide +kernel)
set_option maxRecDepth 20000 in
theorem gX8_restOf_X8_sound : GoodIn wsX8_restOf (wsV RX8 121 RX8 yX8_sound wsX8_sound) := goodIn_app (goodIn_of _ (by decide +kernel)) ggX8_restOf_X8_sound
theorem dX8_restOf_0 : decode cX8_restOf 0 = .ok (.aload_n 0, 1) := by decide +kernel
theorem dX8_restOf_1 : decode cX8_restOf 1 = .ok (.invokevirtual 115, 3) := by decide +kernel
theorem dX8_restOf_4 : decode cX8_restOf 4 = .ok (.istore 4, 2) := by decide +kernel
theorem dX8_restOf_6 : decode cX8_restOf 6 = .ok (.iconst 0, 1) := by decide +kernel
theorem dX8_restOf_7 : decode cX8_restOf 7 = .ok (.istore 5, 2) := by decide +kernel
theorem dX8_restOf_9 : decode cX8_restOf 9 = .ok (.aload_n 0, 1) := by decide +kernel
theorem dX8_restOf_10 : decode cX8_restOf 10 = .ok (.iload_n 1, 1) := by decide +kernel
theorem dX8_restOf_11 : decode cX8_restOf 11 = .ok (.iconst 0, 1) := by decide +kernel
theorem dX8_restOf_12 : decode cX8_restOf 12 = .ok (.invokevirtual 118, 3) := by decide +kernel
theorem dX8_restOf_15 : decode cX8_restOf 15 = .ok (.istore 6, 2) := by decide +kernel
theorem dX8_restOf_17 : decode cX8_restOf 17 = .ok (.iload 6, 2) := by decide +kernel
theorem dX8_restOf_19 : decode cX8_restOf 19 = .ok (.iload 4, 2) := by decide +kernel
theorem dX8_restOf_21 : decode cX8_restOf 21 = .ok (.if_icmp .ge 45, 3) := by decide +kernel
theorem dX8_restOf_24 : decode cX8_restOf 24 = .ok (.aload_n 0, 1) := by decide +kernel
theorem dX8_restOf_25 : decode cX8_restOf 25 = .ok (.iload_n 1, 1) := by decide +kernel
theorem dX8_restOf_26 : decode cX8_restOf 26 = .ok (.iload 6, 2) := by decide +kernel
theorem dX8_restOf_28 : decode cX8_restOf 28 = .ok (.invokevirtual 121, 3) := by decide +kernel
theorem dX8_restOf_31 : decode cX8_restOf 31 = .ok (.istore 7, 2) := by decide +kernel
theorem dX8_restOf_33 : decode cX8_restOf 33 = .ok (.iload 5, 2) := by decide +kernel
theorem dX8_restOf_35 : decode cX8_restOf 35 = .ok (.iload_n 2, 1) := by decide +kernel
theorem dX8_restOf_36 : decode cX8_restOf 36 = .ok (.if_icmp .ne 15, 3) := by decide +kernel
theorem dX8_restOf_39 : decode cX8_restOf 39 = .ok (.iload_n 3, 1) := by decide +kernel
theorem dX8_restOf_40 : decode cX8_restOf 40 = .ok (.ifCond .eq 8, 3) := by decide +kernel
theorem dX8_restOf_43 : decode cX8_restOf 43 = .ok (.iload 7, 2) := by decide +kernel
theorem dX8_restOf_45 : decode cX8_restOf 45 = .ok (.goto 5, 3) := by decide +kernel
theorem dX8_restOf_48 : decode cX8_restOf 48 = .ok (.iload 6, 2) := by decide +kernel
theorem dX8_restOf_50 : decode cX8_restOf 50 = .ok (.ireturn, 1) := by decide +kernel
theorem dX8_restOf_51 : decode cX8_restOf 51 = .ok (.iinc 5 1, 3) := by decide +kernel
theorem dX8_restOf_54 : decode cX8_restOf 54 = .ok (.aload_n 0, 1) := by decide +kernel
theorem dX8_restOf_55 : decode cX8_restOf 55 = .ok (.iload_n 1, 1) := by decide +kernel
theorem dX8_restOf_56 : decode cX8_restOf 56 = .ok (.iload 7, 2) := by decide +kernel
theorem dX8_restOf_58 : decode cX8_restOf 58 = .ok (.invokevirtual 118, 3) := by decide +kernel
theorem dX8_restOf_61 : decode cX8_restOf 61 = .ok (.istore 6, 2) := by decide +kernel
theorem dX8_restOf_63 : decode cX8_restOf 63 = .ok (.goto (-46), 3) := by decide +kernel
theorem dX8_restOf_66 : decode cX8_restOf 66 = .ok (.iload_n 2, 1) := by decide +kernel
theorem dX8_restOf_67 : decode cX8_restOf 67 = .ok (.ifCond .ge 8, 3) := by decide +kernel
theorem dX8_restOf_70 : decode cX8_restOf 70 = .ok (.iload 5, 2) := by decide +kernel
theorem dX8_restOf_72 : decode cX8_restOf 72 = .ok (.goto 5, 3) := by decide +kernel
theorem dX8_restOf_75 : decode cX8_restOf 75 = .ok (.bipush (-2), 2) := by decide +kernel
theorem dX8_restOf_77 : decode cX8_restOf 77 = .ok (.ireturn, 1) := by decide +kernel
set_option maxRecDepth 20000 in
theorem ggX8_rests_X8_restOf : GoodIn wsX8_rests wsX8_restOf := goodIn_r _ [5, 6, 7, 8, 4, 9, 10, 11, 12, 13, 14, 15, 16, 17, 18, 19, 20, 21, 22, 23, 24, 25, 26, 27, 28, 29, 30, 31, 32, 33, 34, 35] (by decide +kernel) (by decide +kernel)
set_option maxRecDepth 20000 in
theorem gX8_rests_X8_restOf : GoodIn wsX8_rests (wsV RX8 124 RX8 yX8_restOf wsX8_restOf) := goodIn_app (goodIn_of _ (by decide +kernel)) ggX8_rests_X8_restOf
theorem dX8_rests_0 : decode cX8_rests 0 = .ok (.iload_n 1, 1) := by decide +kernel
theorem dX8_rests_1 : decode cX8_rests 1 = .ok (.ifCond .lt 8, 3) := by decide +kernel
theorem dX8_rests_4 : decode cX8_rests 4 = .ok (.iload_n 1, 1) := by decide +kernel
theorem dX8_rests_5 : decode cX8_rests 5 = .ok (.iconst 4, 1) := by decide +kernel
theorem dX8_rests_6 : decode cX8_rests 6 = .ok (.if_icmp .le 8, 3) := by decide +kernel
theorem dX8_rests_9 : decode cX8_rests 9 = .ok (.bipush (-2), 2) := by decide +kernel
theorem dX8_rests_11 : decode cX8_rests 11 = .ok (.goto 10, 3) := by decide +kernel
theorem dX8_rests_14 : decode cX8_rests 14 = .ok (.aload_n 0, 1) := by decide +kernel
theorem dX8_rests_15 : decode cX8_rests 15 = .ok (.iload_n 1, 1) := by decide +kernel
theorem dX8_rests_16 : decode cX8_rests 16 = .ok (.iconst (-1), 1) := by decide +kernel
theorem dX8_rests_17 : decode cX8_rests 17 = .ok (.iconst 0, 1) := by decide +kernel
theorem dX8_rests_18 : decode cX8_rests 18 = .ok (.invokevirtual 124, 3) := by decide +kernel
theorem dX8_rests_21 : decode cX8_rests 21 = .ok (.ireturn, 1) := by decide +kernel
set_option maxRecDepth 20000 in
theorem ggX8_rest_X8_restOf : GoodIn wsX8_rest wsX8_restOf := goodIn_r _ [5, 6, 7, 8, 4, 9, 10, 11, 12, 13, 14, 15, 16, 17, 18, 19, 20, 21, 22, 23, 24, 25, 26, 27, 28, 29, 30, 31, 32, 33, 34, 35] (by decide +kernel) (by decide +kernel)
set_option maxRecDepth 20000 in
theorem gX8_rest_X8_restOf : GoodIn wsX8_rest (wsV RX8 124 RX8 yX8_restOf wsX8_restOf) := goodIn_app (goodIn_of _ (by decide +kernel)) ggX8_rest_X8_restOf
theorem dX8_rest_0 : decode cX8_rest 0 = .ok (.iload_n 1, 1) := by decide +kernel
theorem dX8_rest_1 : decode cX8_rest 1 = .ok (.ifCond .lt 21, 3) := by decide +kernel
theorem dX8_rest_4 : decode cX8_rest 4 = .ok (.iload_n 1, 1) := by decide +kernel
theorem dX8_rest_5 : decode cX8_rest 5 = .ok (.iconst 4, 1) := by decide +kernel
theorem dX8_rest_6 : decode cX8_rest 6 = .ok (.if_icmp .gt 16, 3) := by decide +kernel
theorem dX8_rest_9 : decode cX8_rest 9 = .ok (.iload_n 2, 1) := by decide +kernel
theorem dX8_rest_10 : decode cX8_rest 10 = .ok (.ifCond .lt 12, 3) := by decide +kernel
theorem dX8_rest_13 : decode cX8_rest 13 = .ok (.iload_n 3, 1) := by decide +kernel
theorem dX8_rest_14 : decode cX8_rest 14 = .ok (.ifCond .lt 8, 3) := by decide +kernel
theorem dX8_rest_17 : decode cX8_rest 17 = .ok (.iload_n 3, 1) := by decide +kernel
theorem dX8_rest_18 : decode cX8_rest 18 = .ok (.iconst 1, 1) := by decide +kernel
theorem dX8_rest_19 : decode cX8_rest 19 = .ok (.if_icmp .le 6, 3) := by decide +kernel
theorem dX8_rest_22 : decode cX8_rest 22 = .ok (.bipush (-2), 2) := by decide +kernel
theorem dX8_rest_24 : decode cX8_rest 24 = .ok (.ireturn, 1) := by decide +kernel
theorem dX8_rest_25 : decode cX8_rest 25 = .ok (.aload_n 0, 1) := by decide +kernel
theorem dX8_rest_26 : decode cX8_rest 26 = .ok (.iload_n 1, 1) := by decide +kernel
theorem dX8_rest_27 : decode cX8_rest 27 = .ok (.iload_n 2, 1) := by decide +kernel
theorem dX8_rest_28 : decode cX8_rest 28 = .ok (.iload_n 3, 1) := by decide +kernel
theorem dX8_rest_29 : decode cX8_rest 29 = .ok (.iconst 1, 1) := by decide +kernel
theorem dX8_rest_30 : decode cX8_rest 30 = .ok (.if_icmp .ne 7, 3) := by decide +kernel
theorem dX8_rest_33 : decode cX8_rest 33 = .ok (.iconst 1, 1) := by decide +kernel
theorem dX8_rest_34 : decode cX8_rest 34 = .ok (.goto 4, 3) := by decide +kernel
theorem dX8_rest_37 : decode cX8_rest 37 = .ok (.iconst 0, 1) := by decide +kernel
theorem dX8_rest_38 : decode cX8_rest 38 = .ok (.invokevirtual 124, 3) := by decide +kernel
theorem dX8_rest_41 : decode cX8_rest 41 = .ok (.ireturn, 1) := by decide +kernel
set_option maxRecDepth 20000 in
theorem ggX8_isPair_X8_together : GoodIn wsX8_isPair wsX8_together := goodIn_r _ [9, 3, 4, 10, 11, 12, 13, 14, 15, 16, 17, 18, 19] (by decide +kernel) (by decide +kernel)
set_option maxRecDepth 20000 in
theorem gX8_isPair_X8_together : GoodIn wsX8_isPair (wsV RX8 59 RX8 yX8_together wsX8_together) := goodIn_app (goodIn_of _ (by decide +kernel)) ggX8_isPair_X8_together
theorem dX8_isPair_0 : decode cX8_isPair 0 = .ok (.aload_n 0, 1) := by decide +kernel
theorem dX8_isPair_1 : decode cX8_isPair 1 = .ok (.getfield 19, 3) := by decide +kernel
theorem dX8_isPair_4 : decode cX8_isPair 4 = .ok (.iload_n 1, 1) := by decide +kernel
theorem dX8_isPair_5 : decode cX8_isPair 5 = .ok (.iaload, 1) := by decide +kernel
theorem dX8_isPair_6 : decode cX8_isPair 6 = .ok (.ifCond .lt 36, 3) := by decide +kernel
theorem dX8_isPair_9 : decode cX8_isPair 9 = .ok (.aload_n 0, 1) := by decide +kernel
theorem dX8_isPair_10 : decode cX8_isPair 10 = .ok (.getfield 19, 3) := by decide +kernel
theorem dX8_isPair_13 : decode cX8_isPair 13 = .ok (.iload_n 2, 1) := by decide +kernel
theorem dX8_isPair_14 : decode cX8_isPair 14 = .ok (.iaload, 1) := by decide +kernel
theorem dX8_isPair_15 : decode cX8_isPair 15 = .ok (.ifCond .lt 27, 3) := by decide +kernel
theorem dX8_isPair_18 : decode cX8_isPair 18 = .ok (.aload_n 0, 1) := by decide +kernel
theorem dX8_isPair_19 : decode cX8_isPair 19 = .ok (.getfield 19, 3) := by decide +kernel
theorem dX8_isPair_22 : decode cX8_isPair 22 = .ok (.iload_n 1, 1) := by decide +kernel
theorem dX8_isPair_23 : decode cX8_isPair 23 = .ok (.iaload, 1) := by decide +kernel
theorem dX8_isPair_24 : decode cX8_isPair 24 = .ok (.aload_n 0, 1) := by decide +kernel
theorem dX8_isPair_25 : decode cX8_isPair 25 = .ok (.getfield 19, 3) := by decide +kernel
theorem dX8_isPair_28 : decode cX8_isPair 28 = .ok (.iload_n 2, 1) := by decide +kernel
theorem dX8_isPair_29 : decode cX8_isPair 29 = .ok (.iaload, 1) := by decide +kernel
theorem dX8_isPair_30 : decode cX8_isPair 30 = .ok (.if_icmp .eq 12, 3) := by decide +kernel
theorem dX8_isPair_33 : decode cX8_isPair 33 = .ok (.aload_n 0, 1) := by decide +kernel
theorem dX8_isPair_34 : decode cX8_isPair 34 = .ok (.iload_n 1, 1) := by decide +kernel
theorem dX8_isPair_35 : decode cX8_isPair 35 = .ok (.iload_n 2, 1) := by decide +kernel
theorem dX8_isPair_36 : decode cX8_isPair 36 = .ok (.invokevirtual 59, 3) := by decide +kernel
theorem dX8_isPair_39 : decode cX8_isPair 39 = .ok (.ifCond .ne 5, 3) := by decide +kernel
theorem dX8_isPair_42 : decode cX8_isPair 42 = .ok (.iconst 0, 1) := by decide +kernel
theorem dX8_isPair_43 : decode cX8_isPair 43 = .ok (.ireturn, 1) := by decide +kernel
theorem dX8_isPair_44 : decode cX8_isPair 44 = .ok (.iload_n 3, 1) := by decide +kernel
theorem dX8_isPair_45 : decode cX8_isPair 45 = .ok (.ifCond .ne 62, 3) := by decide +kernel
theorem dX8_isPair_48 : decode cX8_isPair 48 = .ok (.aload_n 0, 1) := by decide +kernel
theorem dX8_isPair_49 : decode cX8_isPair 49 = .ok (.getfield 19, 3) := by decide +kernel
theorem dX8_isPair_52 : decode cX8_isPair 52 = .ok (.iload_n 1, 1) := by decide +kernel
theorem dX8_isPair_53 : decode cX8_isPair 53 = .ok (.iaload, 1) := by decide +kernel
theorem dX8_isPair_54 : decode cX8_isPair 54 = .ok (.aload_n 0, 1) := by decide +kernel
theorem dX8_isPair_55 : decode cX8_isPair 55 = .ok (.getfield 19, 3) := by decide +kernel
theorem dX8_isPair_58 : decode cX8_isPair 58 = .ok (.iload_n 2, 1) := by decide +kernel
theorem dX8_isPair_59 : decode cX8_isPair 59 = .ok (.iaload, 1) := by decide +kernel
theorem dX8_isPair_60 : decode cX8_isPair 60 = .ok (.if_icmp .ge 26, 3) := by decide +kernel
theorem dX8_isPair_63 : decode cX8_isPair 63 = .ok (.aload_n 0, 1) := by decide +kernel
theorem dX8_isPair_64 : decode cX8_isPair 64 = .ok (.getfield 16, 3) := by decide +kernel
theorem dX8_isPair_67 : decode cX8_isPair 67 = .ok (.iload_n 1, 1) := by decide +kernel
theorem dX8_isPair_68 : decode cX8_isPair 68 = .ok (.iaload, 1) := by decide +kernel
theorem dX8_isPair_69 : decode cX8_isPair 69 = .ok (.aload_n 0, 1) := by decide +kernel
theorem dX8_isPair_70 : decode cX8_isPair 70 = .ok (.getfield 16, 3) := by decide +kernel
theorem dX8_isPair_73 : decode cX8_isPair 73 = .ok (.iload_n 2, 1) := by decide +kernel
theorem dX8_isPair_74 : decode cX8_isPair 74 = .ok (.iaload, 1) := by decide +kernel
theorem dX8_isPair_75 : decode cX8_isPair 75 = .ok (.if_icmp .ge 7, 3) := by decide +kernel
theorem dX8_isPair_78 : decode cX8_isPair 78 = .ok (.iconst 1, 1) := by decide +kernel
theorem dX8_isPair_79 : decode cX8_isPair 79 = .ok (.goto 27, 3) := by decide +kernel
theorem dX8_isPair_82 : decode cX8_isPair 82 = .ok (.iconst 0, 1) := by decide +kernel
theorem dX8_isPair_83 : decode cX8_isPair 83 = .ok (.goto 23, 3) := by decide +kernel
theorem dX8_isPair_86 : decode cX8_isPair 86 = .ok (.aload_n 0, 1) := by decide +kernel
theorem dX8_isPair_87 : decode cX8_isPair 87 = .ok (.getfield 16, 3) := by decide +kernel
theorem dX8_isPair_90 : decode cX8_isPair 90 = .ok (.iload_n 2, 1) := by decide +kernel
theorem dX8_isPair_91 : decode cX8_isPair 91 = .ok (.iaload, 1) := by decide +kernel
theorem dX8_isPair_92 : decode cX8_isPair 92 = .ok (.aload_n 0, 1) := by decide +kernel
theorem dX8_isPair_93 : decode cX8_isPair 93 = .ok (.getfield 16, 3) := by decide +kernel
theorem dX8_isPair_96 : decode cX8_isPair 96 = .ok (.iload_n 1, 1) := by decide +kernel
theorem dX8_isPair_97 : decode cX8_isPair 97 = .ok (.iaload, 1) := by decide +kernel
theorem dX8_isPair_98 : decode cX8_isPair 98 = .ok (.if_icmp .ge 7, 3) := by decide +kernel
theorem dX8_isPair_101 : decode cX8_isPair 101 = .ok (.iconst 1, 1) := by decide +kernel
theorem dX8_isPair_102 : decode cX8_isPair 102 = .ok (.goto 4, 3) := by decide +kernel
theorem dX8_isPair_105 : decode cX8_isPair 105 = .ok (.iconst 0, 1) := by decide +kernel
theorem dX8_isPair_106 : decode cX8_isPair 106 = .ok (.ireturn, 1) := by decide +kernel
theorem dX8_isPair_107 : decode cX8_isPair 107 = .ok (.aload_n 0, 1) := by decide +kernel
theorem dX8_isPair_108 : decode cX8_isPair 108 = .ok (.getfield 16, 3) := by decide +kernel
theorem dX8_isPair_111 : decode cX8_isPair 111 = .ok (.iload_n 1, 1) := by decide +kernel
theorem dX8_isPair_112 : decode cX8_isPair 112 = .ok (.iaload, 1) := by decide +kernel
theorem dX8_isPair_113 : decode cX8_isPair 113 = .ok (.aload_n 0, 1) := by decide +kernel
theorem dX8_isPair_114 : decode cX8_isPair 114 = .ok (.getfield 16, 3) := by decide +kernel
theorem dX8_isPair_117 : decode cX8_isPair 117 = .ok (.iload_n 2, 1) := by decide +kernel
theorem dX8_isPair_118 : decode cX8_isPair 118 = .ok (.iaload, 1) := by decide +kernel
theorem dX8_isPair_119 : decode cX8_isPair 119 = .ok (.if_icmp .ne 42, 3) := by decide +kernel
theorem dX8_isPair_122 : decode cX8_isPair 122 = .ok (.iload_n 3, 1) := by decide +kernel
theorem dX8_isPair_123 : decode cX8_isPair 123 = .ok (.iconst 1, 1) := by decide +kernel
theorem dX8_isPair_124 : decode cX8_isPair 124 = .ok (.if_icmp .eq 33, 3) := by decide +kernel
theorem dX8_isPair_127 : decode cX8_isPair 127 = .ok (.aload_n 0, 1) := by decide +kernel
theorem dX8_isPair_128 : decode cX8_isPair 128 = .ok (.getfield 7, 3) := by decide +kernel
theorem dX8_isPair_131 : decode cX8_isPair 131 = .ok (.iload_n 1, 1) := by decide +kernel
theorem dX8_isPair_132 : decode cX8_isPair 132 = .ok (.iaload, 1) := by decide +kernel
theorem dX8_isPair_133 : decode cX8_isPair 133 = .ok (.aload_n 0, 1) := by decide +kernel
theorem dX8_isPair_134 : decode cX8_isPair 134 = .ok (.getfield 7, 3) := by decide +kernel
theorem dX8_isPair_137 : decode cX8_isPair 137 = .ok (.iload_n 2, 1) := by decide +kernel
theorem dX8_isPair_138 : decode cX8_isPair 138 = .ok (.iaload, 1) := by decide +kernel
theorem dX8_isPair_139 : decode cX8_isPair 139 = .ok (.if_icmp .ne 22, 3) := by decide +kernel
theorem dX8_isPair_142 : decode cX8_isPair 142 = .ok (.aload_n 0, 1) := by decide +kernel
theorem dX8_isPair_143 : decode cX8_isPair 143 = .ok (.getfield 13, 3) := by decide +kernel
theorem dX8_isPair_146 : decode cX8_isPair 146 = .ok (.iload_n 1, 1) := by decide +kernel
theorem dX8_isPair_147 : decode cX8_isPair 147 = .ok (.iaload, 1) := by decide +kernel
theorem dX8_isPair_148 : decode cX8_isPair 148 = .ok (.aload_n 0, 1) := by decide +kernel
theorem dX8_isPair_149 : decode cX8_isPair 149 = .ok (.getfield 13, 3) := by decide +kernel
theorem dX8_isPair_152 : decode cX8_isPair 152 = .ok (.iload_n 2, 1) := by decide +kernel
theorem dX8_isPair_153 : decode cX8_isPair 153 = .ok (.iaload, 1) := by decide +kernel
theorem dX8_isPair_154 : decode cX8_isPair 154 = .ok (.if_icmp .ne 7, 3) := by decide +kernel
theorem dX8_isPair_157 : decode cX8_isPair 157 = .ok (.iconst 1, 1) := by decide +kernel
theorem dX8_isPair_158 : decode cX8_isPair 158 = .ok (.goto 4, 3) := by decide +kernel
theorem dX8_isPair_161 : decode cX8_isPair 161 = .ok (.iconst 0, 1) := by decide +kernel
theorem dX8_isPair_162 : decode cX8_isPair 162 = .ok (.ireturn, 1) := by decide +kernel
set_option maxRecDepth 20000 in
theorem ggX8_pairOf_X8_isPair : GoodIn wsX8_pairOf wsX8_isPair := goodIn_r _ [7, 8, 9, 10, 11, 12, 13, 14, 6, 15, 16, 17, 18, 19, 20, 21, 22, 23, 24, 25] (by decide +kernel) (by decide +kernel)
set_option maxRecDepth 20000 in
theorem gX8_pairOf_X8_isPair : GoodIn wsX8_pairOf (wsV RX8 128 RX8 yX8_isPair wsX8_isPair) := goodIn_app (goodIn_of _ (by decide +kernel)) ggX8_pairOf_X8_isPair
theorem dX8_pairOf_0 : decode cX8_pairOf 0 = .ok (.iconst 0, 1) := by decide +kernel
theorem dX8_pairOf_1 : decode cX8_pairOf 1 = .ok (.istore 4, 2) := by decide +kernel
theorem dX8_pairOf_3 : decode cX8_pairOf 3 = .ok (.iconst 0, 1) := by decide +kernel
theorem dX8_pairOf_4 : decode cX8_pairOf 4 = .ok (.istore 5, 2) := by decide +kernel
theorem dX8_pairOf_6 : decode cX8_pairOf 6 = .ok (.iload 5, 2) := by decide +kernel
theorem dX8_pairOf_8 : decode cX8_pairOf 8 = .ok (.aload_n 0, 1) := by decide +kernel
theorem dX8_pairOf_9 : decode cX8_pairOf 9 = .ok (.getfield 38, 3) := by decide +kernel
theorem dX8_pairOf_12 : decode cX8_pairOf 12 = .ok (.if_icmp .ge 83, 3) := by decide +kernel
theorem dX8_pairOf_15 : decode cX8_pairOf 15 = .ok (.iload 5, 2) := by decide +kernel
theorem dX8_pairOf_17 : decode cX8_pairOf 17 = .ok (.iconst 1, 1) := by decide +kernel
theorem dX8_pairOf_18 : decode cX8_pairOf 18 = .ok (.iadd, 1) := by decide +kernel
theorem dX8_pairOf_19 : decode cX8_pairOf 19 = .ok (.istore 6, 2) := by decide +kernel
theorem dX8_pairOf_21 : decode cX8_pairOf 21 = .ok (.iload 6, 2) := by decide +kernel
theorem dX8_pairOf_23 : decode cX8_pairOf 23 = .ok (.aload_n 0, 1) := by decide +kernel
theorem dX8_pairOf_24 : decode cX8_pairOf 24 = .ok (.getfield 38, 3) := by decide +kernel
theorem dX8_pairOf_27 : decode cX8_pairOf 27 = .ok (.if_icmp .ge 62, 3) := by decide +kernel
theorem dX8_pairOf_30 : decode cX8_pairOf 30 = .ok (.aload_n 0, 1) := by decide +kernel
theorem dX8_pairOf_31 : decode cX8_pairOf 31 = .ok (.aload_n 0, 1) := by decide +kernel
theorem dX8_pairOf_32 : decode cX8_pairOf 32 = .ok (.getfield 25, 3) := by decide +kernel
theorem dX8_pairOf_35 : decode cX8_pairOf 35 = .ok (.iload 5, 2) := by decide +kernel
theorem dX8_pairOf_37 : decode cX8_pairOf 37 = .ok (.iaload, 1) := by decide +kernel
theorem dX8_pairOf_38 : decode cX8_pairOf 38 = .ok (.aload_n 0, 1) := by decide +kernel
theorem dX8_pairOf_39 : decode cX8_pairOf 39 = .ok (.getfield 25, 3) := by decide +kernel
theorem dX8_pairOf_42 : decode cX8_pairOf 42 = .ok (.iload 6, 2) := by decide +kernel
theorem dX8_pairOf_44 : decode cX8_pairOf 44 = .ok (.iaload, 1) := by decide +kernel
theorem dX8_pairOf_45 : decode cX8_pairOf 45 = .ok (.iload_n 1, 1) := by decide +kernel
theorem dX8_pairOf_46 : decode cX8_pairOf 46 = .ok (.invokevirtual 128, 3) := by decide +kernel
theorem dX8_pairOf_49 : decode cX8_pairOf 49 = .ok (.ifCond .eq 34, 3) := by decide +kernel
theorem dX8_pairOf_52 : decode cX8_pairOf 52 = .ok (.iload 4, 2) := by decide +kernel
theorem dX8_pairOf_54 : decode cX8_pairOf 54 = .ok (.iload_n 2, 1) := by decide +kernel
theorem dX8_pairOf_55 : decode cX8_pairOf 55 = .ok (.if_icmp .ne 25, 3) := by decide +kernel
theorem dX8_pairOf_58 : decode cX8_pairOf 58 = .ok (.iload_n 3, 1) := by decide +kernel
theorem dX8_pairOf_59 : decode cX8_pairOf 59 = .ok (.ifCond .ne 13, 3) := by decide +kernel
theorem dX8_pairOf_62 : decode cX8_pairOf 62 = .ok (.aload_n 0, 1) := by decide +kernel
theorem dX8_pairOf_63 : decode cX8_pairOf 63 = .ok (.getfield 25, 3) := by decide +kernel
theorem dX8_pairOf_66 : decode cX8_pairOf 66 = .ok (.iload 5, 2) := by decide +kernel
theorem dX8_pairOf_68 : decode cX8_pairOf 68 = .ok (.iaload, 1) := by decide +kernel
theorem dX8_pairOf_69 : decode cX8_pairOf 69 = .ok (.goto 10, 3) := by decide +kernel
theorem dX8_pairOf_72 : decode cX8_pairOf 72 = .ok (.aload_n 0, 1) := by decide +kernel
theorem dX8_pairOf_73 : decode cX8_pairOf 73 = .ok (.getfield 25, 3) := by decide +kernel
theorem dX8_pairOf_76 : decode cX8_pairOf 76 = .ok (.iload 6, 2) := by decide +kernel
theorem dX8_pairOf_78 : decode cX8_pairOf 78 = .ok (.iaload, 1) := by decide +kernel
theorem dX8_pairOf_79 : decode cX8_pairOf 79 = .ok (.ireturn, 1) := by decide +kernel
theorem dX8_pairOf_80 : decode cX8_pairOf 80 = .ok (.iinc 4 1, 3) := by decide +kernel
theorem dX8_pairOf_83 : decode cX8_pairOf 83 = .ok (.iinc 6 1, 3) := by decide +kernel
theorem dX8_pairOf_86 : decode cX8_pairOf 86 = .ok (.goto (-65), 3) := by decide +kernel
theorem dX8_pairOf_89 : decode cX8_pairOf 89 = .ok (.iinc 5 1, 3) := by decide +kernel
theorem dX8_pairOf_92 : decode cX8_pairOf 92 = .ok (.goto (-86), 3) := by decide +kernel
theorem dX8_pairOf_95 : decode cX8_pairOf 95 = .ok (.iload_n 2, 1) := by decide +kernel
theorem dX8_pairOf_96 : decode cX8_pairOf 96 = .ok (.ifCond .ge 8, 3) := by decide +kernel
theorem dX8_pairOf_99 : decode cX8_pairOf 99 = .ok (.iload 4, 2) := by decide +kernel
theorem dX8_pairOf_101 : decode cX8_pairOf 101 = .ok (.goto 5, 3) := by decide +kernel
theorem dX8_pairOf_104 : decode cX8_pairOf 104 = .ok (.bipush (-2), 2) := by decide +kernel
theorem dX8_pairOf_106 : decode cX8_pairOf 106 = .ok (.ireturn, 1) := by decide +kernel
set_option maxRecDepth 20000 in
theorem ggX8_pairs_X8_pairOf : GoodIn wsX8_pairs wsX8_pairOf := goodIn_r _ [5, 6, 7, 8, 9, 10, 4, 11, 12, 13, 14, 15, 16, 17, 18, 19, 20, 21, 22, 23, 24, 25, 26, 27, 28, 29] (by decide +kernel) (by decide +kernel)
set_option maxRecDepth 20000 in
theorem gX8_pairs_X8_pairOf : GoodIn wsX8_pairs (wsV RX8 131 RX8 yX8_pairOf wsX8_pairOf) := goodIn_app (goodIn_of _ (by decide +kernel)) ggX8_pairs_X8_pairOf
theorem dX8_pairs_0 : decode cX8_pairs 0 = .ok (.iload_n 1, 1) := by decide +kernel
theorem dX8_pairs_1 : decode cX8_pairs 1 = .ok (.ifCond .lt 8, 3) := by decide +kernel
theorem dX8_pairs_4 : decode cX8_pairs 4 = .ok (.iload_n 1, 1) := by decide +kernel
theorem dX8_pairs_5 : decode cX8_pairs 5 = .ok (.iconst 2, 1) := by decide +kernel
theorem dX8_pairs_6 : decode cX8_pairs 6 = .ok (.if_icmp .le 8, 3) := by decide +kernel
theorem dX8_pairs_9 : decode cX8_pairs 9 = .ok (.bipush (-2), 2) := by decide +kernel
theorem dX8_pairs_11 : decode cX8_pairs 11 = .ok (.goto 10, 3) := by decide +kernel
theorem dX8_pairs_14 : decode cX8_pairs 14 = .ok (.aload_n 0, 1) := by decide +kernel
theorem dX8_pairs_15 : decode cX8_pairs 15 = .ok (.iload_n 1, 1) := by decide +kernel
theorem dX8_pairs_16 : decode cX8_pairs 16 = .ok (.iconst (-1), 1) := by decide +kernel
theorem dX8_pairs_17 : decode cX8_pairs 17 = .ok (.iconst 0, 1) := by decide +kernel
theorem dX8_pairs_18 : decode cX8_pairs 18 = .ok (.invokevirtual 131, 3) := by decide +kernel
theorem dX8_pairs_21 : decode cX8_pairs 21 = .ok (.ireturn, 1) := by decide +kernel
set_option maxRecDepth 20000 in
theorem ggX8_pair_X8_pairOf : GoodIn wsX8_pair wsX8_pairOf := goodIn_r _ [5, 6, 7, 8, 9, 10, 4, 11, 12, 13, 14, 15, 16, 17, 18, 19, 20, 21, 22, 23, 24, 25, 26, 27, 28, 29] (by decide +kernel) (by decide +kernel)
set_option maxRecDepth 20000 in
theorem gX8_pair_X8_pairOf : GoodIn wsX8_pair (wsV RX8 131 RX8 yX8_pairOf wsX8_pairOf) := goodIn_app (goodIn_of _ (by decide +kernel)) ggX8_pair_X8_pairOf
theorem dX8_pair_0 : decode cX8_pair 0 = .ok (.iload_n 1, 1) := by decide +kernel
theorem dX8_pair_1 : decode cX8_pair 1 = .ok (.ifCond .lt 21, 3) := by decide +kernel
theorem dX8_pair_4 : decode cX8_pair 4 = .ok (.iload_n 1, 1) := by decide +kernel
theorem dX8_pair_5 : decode cX8_pair 5 = .ok (.iconst 2, 1) := by decide +kernel
theorem dX8_pair_6 : decode cX8_pair 6 = .ok (.if_icmp .gt 16, 3) := by decide +kernel
theorem dX8_pair_9 : decode cX8_pair 9 = .ok (.iload_n 2, 1) := by decide +kernel
theorem dX8_pair_10 : decode cX8_pair 10 = .ok (.ifCond .lt 12, 3) := by decide +kernel
theorem dX8_pair_13 : decode cX8_pair 13 = .ok (.iload_n 3, 1) := by decide +kernel
theorem dX8_pair_14 : decode cX8_pair 14 = .ok (.ifCond .lt 8, 3) := by decide +kernel
theorem dX8_pair_17 : decode cX8_pair 17 = .ok (.iload_n 3, 1) := by decide +kernel
theorem dX8_pair_18 : decode cX8_pair 18 = .ok (.iconst 1, 1) := by decide +kernel
theorem dX8_pair_19 : decode cX8_pair 19 = .ok (.if_icmp .le 6, 3) := by decide +kernel
theorem dX8_pair_22 : decode cX8_pair 22 = .ok (.bipush (-2), 2) := by decide +kernel
theorem dX8_pair_24 : decode cX8_pair 24 = .ok (.ireturn, 1) := by decide +kernel
theorem dX8_pair_25 : decode cX8_pair 25 = .ok (.aload_n 0, 1) := by decide +kernel
theorem dX8_pair_26 : decode cX8_pair 26 = .ok (.iload_n 1, 1) := by decide +kernel
theorem dX8_pair_27 : decode cX8_pair 27 = .ok (.iload_n 2, 1) := by decide +kernel
theorem dX8_pair_28 : decode cX8_pair 28 = .ok (.iload_n 3, 1) := by decide +kernel
theorem dX8_pair_29 : decode cX8_pair 29 = .ok (.invokevirtual 131, 3) := by decide +kernel
theorem dX8_pair_32 : decode cX8_pair 32 = .ok (.ireturn, 1) := by decide +kernel
set_option maxRecDepth 20000 in
theorem ggX8_voice_X8_size : GoodIn wsX8_voice wsX8_size := goodIn_r _ [8, 1, 2, 9, 10, 11, 12, 13, 14, 15, 16, 17, 18] (by decide +kernel) (by decide +kernel)
set_option maxRecDepth 20000 in
theorem gX8_voice_X8_size : GoodIn wsX8_voice (wsV RX8 92 RX8 yX8_size wsX8_size) := goodIn_app (goodIn_of _ (by decide +kernel)) ggX8_voice_X8_size
theorem dX8_voice_0 : decode cX8_voice 0 = .ok (.iload_n 1, 1) := by decide +kernel
theorem dX8_voice_1 : decode cX8_voice 1 = .ok (.ifCond .lt 17, 3) := by decide +kernel
theorem dX8_voice_4 : decode cX8_voice 4 = .ok (.iload_n 1, 1) := by decide +kernel
theorem dX8_voice_5 : decode cX8_voice 5 = .ok (.iconst 4, 1) := by decide +kernel
theorem dX8_voice_6 : decode cX8_voice 6 = .ok (.if_icmp .ge 12, 3) := by decide +kernel
theorem dX8_voice_9 : decode cX8_voice 9 = .ok (.iload_n 2, 1) := by decide +kernel
theorem dX8_voice_10 : decode cX8_voice 10 = .ok (.ifCond .lt 8, 3) := by decide +kernel
theorem dX8_voice_13 : decode cX8_voice 13 = .ok (.iload_n 2, 1) := by decide +kernel
theorem dX8_voice_14 : decode cX8_voice 14 = .ok (.iconst 2, 1) := by decide +kernel
theorem dX8_voice_15 : decode cX8_voice 15 = .ok (.if_icmp .le 6, 3) := by decide +kernel
theorem dX8_voice_18 : decode cX8_voice 18 = .ok (.bipush (-2), 2) := by decide +kernel
theorem dX8_voice_20 : decode cX8_voice 20 = .ok (.ireturn, 1) := by decide +kernel
theorem dX8_voice_21 : decode cX8_voice 21 = .ok (.iconst (-1), 1) := by decide +kernel
theorem dX8_voice_22 : decode cX8_voice 22 = .ok (.istore_n 3, 1) := by decide +kernel
theorem dX8_voice_23 : decode cX8_voice 23 = .ok (.iconst (-1), 1) := by decide +kernel
theorem dX8_voice_24 : decode cX8_voice 24 = .ok (.istore 4, 2) := by decide +kernel
theorem dX8_voice_26 : decode cX8_voice 26 = .ok (.iconst 0, 1) := by decide +kernel
theorem dX8_voice_27 : decode cX8_voice 27 = .ok (.istore 5, 2) := by decide +kernel
theorem dX8_voice_29 : decode cX8_voice 29 = .ok (.iload 5, 2) := by decide +kernel
theorem dX8_voice_31 : decode cX8_voice 31 = .ok (.aload_n 0, 1) := by decide +kernel
theorem dX8_voice_32 : decode cX8_voice 32 = .ok (.getfield 38, 3) := by decide +kernel
theorem dX8_voice_35 : decode cX8_voice 35 = .ok (.if_icmp .ge 73, 3) := by decide +kernel
theorem dX8_voice_38 : decode cX8_voice 38 = .ok (.aload_n 0, 1) := by decide +kernel
theorem dX8_voice_39 : decode cX8_voice 39 = .ok (.getfield 19, 3) := by decide +kernel
theorem dX8_voice_42 : decode cX8_voice 42 = .ok (.iload 5, 2) := by decide +kernel
theorem dX8_voice_44 : decode cX8_voice 44 = .ok (.iaload, 1) := by decide +kernel
theorem dX8_voice_45 : decode cX8_voice 45 = .ok (.iload_n 1, 1) := by decide +kernel
theorem dX8_voice_46 : decode cX8_voice 46 = .ok (.if_icmp .ne 56, 3) := by decide +kernel
theorem dX8_voice_49 : decode cX8_voice 49 = .ok (.iload_n 3, 1) := by decide +kernel
theorem dX8_voice_50 : decode cX8_voice 50 = .ok (.ifCond .lt 14, 3) := by decide +kernel
theorem dX8_voice_53 : decode cX8_voice 53 = .ok (.aload_n 0, 1) := by decide +kernel
theorem dX8_voice_54 : decode cX8_voice 54 = .ok (.getfield 16, 3) := by decide +kernel
theorem dX8_voice_57 : decode cX8_voice 57 = .ok (.iload 5, 2) := by decide +kernel
theorem dX8_voice_59 : decode cX8_voice 59 = .ok (.iaload, 1) := by decide +kernel
theorem dX8_voice_60 : decode cX8_voice 60 = .ok (.iload_n 3, 1) := by decide +kernel
theorem dX8_voice_61 : decode cX8_voice 61 = .ok (.if_icmp .ge 13, 3) := by decide +kernel
theorem dX8_voice_64 : decode cX8_voice 64 = .ok (.aload_n 0, 1) := by decide +kernel
theorem dX8_voice_65 : decode cX8_voice 65 = .ok (.getfield 16, 3) := by decide +kernel
theorem dX8_voice_68 : decode cX8_voice 68 = .ok (.iload 5, 2) := by decide +kernel
theorem dX8_voice_70 : decode cX8_voice 70 = .ok (.iaload, 1) := by decide +kernel
theorem dX8_voice_71 : decode cX8_voice 71 = .ok (.goto 4, 3) := by decide +kernel
theorem dX8_voice_74 : decode cX8_voice 74 = .ok (.iload_n 3, 1) := by decide +kernel
theorem dX8_voice_75 : decode cX8_voice 75 = .ok (.istore_n 3, 1) := by decide +kernel
theorem dX8_voice_76 : decode cX8_voice 76 = .ok (.aload_n 0, 1) := by decide +kernel
theorem dX8_voice_77 : decode cX8_voice 77 = .ok (.getfield 16, 3) := by decide +kernel
theorem dX8_voice_80 : decode cX8_voice 80 = .ok (.iload 5, 2) := by decide +kernel
theorem dX8_voice_82 : decode cX8_voice 82 = .ok (.iaload, 1) := by decide +kernel
theorem dX8_voice_83 : decode cX8_voice 83 = .ok (.iload 4, 2) := by decide +kernel
theorem dX8_voice_85 : decode cX8_voice 85 = .ok (.if_icmp .le 13, 3) := by decide +kernel
theorem dX8_voice_88 : decode cX8_voice 88 = .ok (.aload_n 0, 1) := by decide +kernel
theorem dX8_voice_89 : decode cX8_voice 89 = .ok (.getfield 16, 3) := by decide +kernel
theorem dX8_voice_92 : decode cX8_voice 92 = .ok (.iload 5, 2) := by decide +kernel
theorem dX8_voice_94 : decode cX8_voice 94 = .ok (.iaload, 1) := by decide +kernel
theorem dX8_voice_95 : decode cX8_voice 95 = .ok (.goto 5, 3) := by decide +kernel
theorem dX8_voice_98 : decode cX8_voice 98 = .ok (.iload 4, 2) := by decide +kernel
theorem dX8_voice_100 : decode cX8_voice 100 = .ok (.istore 4, 2) := by decide +kernel
theorem dX8_voice_102 : decode cX8_voice 102 = .ok (.iinc 5 1, 3) := by decide +kernel
theorem dX8_voice_105 : decode cX8_voice 105 = .ok (.goto (-76), 3) := by decide +kernel
theorem dX8_voice_108 : decode cX8_voice 108 = .ok (.iload_n 2, 1) := by decide +kernel
theorem dX8_voice_109 : decode cX8_voice 109 = .ok (.ifCond .ne 7, 3) := by decide +kernel
theorem dX8_voice_112 : decode cX8_voice 112 = .ok (.iload_n 3, 1) := by decide +kernel
theorem dX8_voice_113 : decode cX8_voice 113 = .ok (.goto 18, 3) := by decide +kernel
theorem dX8_voice_116 : decode cX8_voice 116 = .ok (.iload_n 2, 1) := by decide +kernel
theorem dX8_voice_117 : decode cX8_voice 117 = .ok (.iconst 1, 1) := by decide +kernel
theorem dX8_voice_118 : decode cX8_voice 118 = .ok (.if_icmp .ne 8, 3) := by decide +kernel
theorem dX8_voice_121 : decode cX8_voice 121 = .ok (.iload 4, 2) := by decide +kernel
theorem dX8_voice_123 : decode cX8_voice 123 = .ok (.goto 8, 3) := by decide +kernel
theorem dX8_voice_126 : decode cX8_voice 126 = .ok (.aload_n 0, 1) := by decide +kernel
theorem dX8_voice_127 : decode cX8_voice 127 = .ok (.iload_n 1, 1) := by decide +kernel
theorem dX8_voice_128 : decode cX8_voice 128 = .ok (.invokevirtual 92, 3) := by decide +kernel
theorem dX8_voice_131 : decode cX8_voice 131 = .ok (.ireturn, 1) := by decide +kernel
set_option maxRecDepth 20000 in
theorem ggX8_told_X8_size : GoodIn wsX8_told wsX8_size := goodIn_r _ [6, 1, 7, 30, 31, 32, 33, 34, 35, 36, 37, 38, 39] (by decide +kernel) (by decide +kernel)
set_option maxRecDepth 20000 in
theorem gX8_told_X8_size : GoodIn wsX8_told (wsV RX8 92 RX8 yX8_size wsX8_size) := goodIn_app (goodIn_of _ (by decide +kernel)) ggX8_told_X8_size
set_option maxRecDepth 20000 in
theorem ggX8_told_X8_theEnd : GoodIn wsX8_told wsX8_theEnd := goodIn_r _ [11, 1, 12, 30, 31, 32, 33, 34, 35, 36, 37, 38, 39] (by decide +kernel) (by decide +kernel)
set_option maxRecDepth 20000 in
theorem gX8_told_X8_theEnd : GoodIn wsX8_told (wsV RX8 115 RX8 yX8_theEnd wsX8_theEnd) := goodIn_app (goodIn_of _ (by decide +kernel)) ggX8_told_X8_theEnd
set_option maxRecDepth 20000 in
theorem ggX8_told_X8_isWhole : GoodIn wsX8_told wsX8_isWhole := goodIn_r _ [16, 1, 7, 17, 18, 19, 5, 20, 21, 22, 23, 24, 25, 12, 30, 31, 32, 33, 34, 35, 36, 37, 38, 39] (by decide +kernel) (by decide +kernel)
set_option maxRecDepth 20000 in
theorem gX8_told_X8_isWhole : GoodIn wsX8_told (wsV RX8 95 RX8 yX8_isWhole wsX8_isWhole) := goodIn_app (goodIn_of _ (by decide +kernel)) ggX8_told_X8_isWhole
set_option maxRecDepth 20000 in
theorem ggX8_told_X8_used : GoodIn wsX8_told wsX8_used := goodIn_r _ [29, 2, 3, 4, 5, 6, 1, 7, 30, 31, 32, 33, 34, 35, 36, 37, 38, 39] (by decide +kernel) (by decide +kernel)
set_option maxRecDepth 20000 in
theorem gX8_told_X8_used : GoodIn wsX8_told (wsV RX8 105 RX8 yX8_used wsX8_used) := goodIn_app (goodIn_of _ (by decide +kernel)) ggX8_told_X8_used
theorem dX8_told_0 : decode cX8_told 0 = .ok (.iload_n 1, 1) := by decide +kernel
theorem dX8_told_1 : decode cX8_told 1 = .ok (.ifCond .lt 8, 3) := by decide +kernel
theorem dX8_told_4 : decode cX8_told 4 = .ok (.iload_n 1, 1) := by decide +kernel
theorem dX8_told_5 : decode cX8_told 5 = .ok (.iconst 4, 1) := by decide +kernel
theorem dX8_told_6 : decode cX8_told 6 = .ok (.if_icmp .le 6, 3) := by decide +kernel
theorem dX8_told_9 : decode cX8_told 9 = .ok (.bipush (-2), 2) := by decide +kernel
theorem dX8_told_11 : decode cX8_told 11 = .ok (.ireturn, 1) := by decide +kernel
theorem dX8_told_12 : decode cX8_told 12 = .ok (.iload_n 1, 1) := by decide +kernel
theorem dX8_told_13 : decode cX8_told 13 = .ok (.ifCond .ne 10, 3) := by decide +kernel
theorem dX8_told_16 : decode cX8_told 16 = .ok (.aload_n 0, 1) := by decide +kernel
theorem dX8_told_17 : decode cX8_told 17 = .ok (.getfield 38, 3) := by decide +kernel
theorem dX8_told_20 : decode cX8_told 20 = .ok (.goto 57, 3) := by decide +kernel
theorem dX8_told_23 : decode cX8_told 23 = .ok (.iload_n 1, 1) := by decide +kernel
theorem dX8_told_24 : decode cX8_told 24 = .ok (.iconst 1, 1) := by decide +kernel
theorem dX8_told_25 : decode cX8_told 25 = .ok (.if_icmp .ne 16, 3) := by decide +kernel
theorem dX8_told_28 : decode cX8_told 28 = .ok (.aload_n 0, 1) := by decide +kernel
theorem dX8_told_29 : decode cX8_told 29 = .ok (.getfield 38, 3) := by decide +kernel
theorem dX8_told_32 : decode cX8_told 32 = .ok (.aload_n 0, 1) := by decide +kernel
theorem dX8_told_33 : decode cX8_told 33 = .ok (.iconst (-1), 1) := by decide +kernel
theorem dX8_told_34 : decode cX8_told 34 = .ok (.invokevirtual 92, 3) := by decide +kernel
theorem dX8_told_37 : decode cX8_told 37 = .ok (.isub, 1) := by decide +kernel
theorem dX8_told_38 : decode cX8_told 38 = .ok (.goto 39, 3) := by decide +kernel
theorem dX8_told_41 : decode cX8_told 41 = .ok (.iload_n 1, 1) := by decide +kernel
theorem dX8_told_42 : decode cX8_told 42 = .ok (.iconst 2, 1) := by decide +kernel
theorem dX8_told_43 : decode cX8_told 43 = .ok (.if_icmp .ne 10, 3) := by decide +kernel
theorem dX8_told_46 : decode cX8_told 46 = .ok (.aload_n 0, 1) := by decide +kernel
theorem dX8_told_47 : decode cX8_told 47 = .ok (.invokevirtual 115, 3) := by decide +kernel
theorem dX8_told_50 : decode cX8_told 50 = .ok (.goto 27, 3) := by decide +kernel
theorem dX8_told_53 : decode cX8_told 53 = .ok (.iload_n 1, 1) := by decide +kernel
theorem dX8_told_54 : decode cX8_told 54 = .ok (.iconst 3, 1) := by decide +kernel
theorem dX8_told_55 : decode cX8_told 55 = .ok (.if_icmp .ne 18, 3) := by decide +kernel
theorem dX8_told_58 : decode cX8_told 58 = .ok (.aload_n 0, 1) := by decide +kernel
theorem dX8_told_59 : decode cX8_told 59 = .ok (.invokevirtual 95, 3) := by decide +kernel
theorem dX8_told_62 : decode cX8_told 62 = .ok (.ifCond .eq 7, 3) := by decide +kernel
theorem dX8_told_65 : decode cX8_told 65 = .ok (.iconst 1, 1) := by decide +kernel
theorem dX8_told_66 : decode cX8_told 66 = .ok (.goto 11, 3) := by decide +kernel
theorem dX8_told_69 : decode cX8_told 69 = .ok (.iconst 0, 1) := by decide +kernel
theorem dX8_told_70 : decode cX8_told 70 = .ok (.goto 7, 3) := by decide +kernel
theorem dX8_told_73 : decode cX8_told 73 = .ok (.aload_n 0, 1) := by decide +kernel
theorem dX8_told_74 : decode cX8_told 74 = .ok (.invokevirtual 105, 3) := by decide +kernel
theorem dX8_told_77 : decode cX8_told 77 = .ok (.ireturn, 1) := by decide +kernel
theorem dJ9_abs_0f7a4_0 : decode cJ9_abs_0f7a4 0 = .ok (.iload_n 0, 1) := by decide +kernel
theorem dJ9_abs_0f7a4_1 : decode cJ9_abs_0f7a4 1 = .ok (.ifCond .ge 8, 3) := by decide +kernel
theorem dJ9_abs_0f7a4_4 : decode cJ9_abs_0f7a4 4 = .ok (.iload_n 0, 1) := by decide +kernel
theorem dJ9_abs_0f7a4_5 : decode cJ9_abs_0f7a4 5 = .ok (.ineg, 1) := by decide +kernel
theorem dJ9_abs_0f7a4_6 : decode cJ9_abs_0f7a4 6 = .ok (.goto 4, 3) := by decide +kernel
theorem dJ9_abs_0f7a4_9 : decode cJ9_abs_0f7a4 9 = .ok (.iload_n 0, 1) := by decide +kernel
theorem dJ9_abs_0f7a4_10 : decode cJ9_abs_0f7a4 10 = .ok (.ireturn, 1) := by decide +kernel
theorem dJ9_max_7cf53_0 : decode cJ9_max_7cf53 0 = .ok (.iload_n 0, 1) := by decide +kernel
theorem dJ9_max_7cf53_1 : decode cJ9_max_7cf53 1 = .ok (.iload_n 1, 1) := by decide +kernel
theorem dJ9_max_7cf53_2 : decode cJ9_max_7cf53 2 = .ok (.if_icmp .lt 7, 3) := by decide +kernel
theorem dJ9_max_7cf53_5 : decode cJ9_max_7cf53 5 = .ok (.iload_n 0, 1) := by decide +kernel
theorem dJ9_max_7cf53_6 : decode cJ9_max_7cf53 6 = .ok (.goto 4, 3) := by decide +kernel
theorem dJ9_max_7cf53_9 : decode cJ9_max_7cf53 9 = .ok (.iload_n 1, 1) := by decide +kernel
theorem dJ9_max_7cf53_10 : decode cJ9_max_7cf53 10 = .ok (.ireturn, 1) := by decide +kernel
theorem dJ9_min_7cf53_0 : decode cJ9_min_7cf53 0 = .ok (.iload_n 0, 1) := by decide +kernel
theorem dJ9_min_7cf53_1 : decode cJ9_min_7cf53 1 = .ok (.iload_n 1, 1) := by decide +kernel
theorem dJ9_min_7cf53_2 : decode cJ9_min_7cf53 2 = .ok (.if_icmp .gt 7, 3) := by decide +kernel
theorem dJ9_min_7cf53_5 : decode cJ9_min_7cf53 5 = .ok (.iload_n 0, 1) := by decide +kernel
theorem dJ9_min_7cf53_6 : decode cJ9_min_7cf53 6 = .ok (.goto 4, 3) := by decide +kernel
theorem dJ9_min_7cf53_9 : decode cJ9_min_7cf53 9 = .ok (.iload_n 1, 1) := by decide +kernel
theorem dJ9_min_7cf53_10 : decode cJ9_min_7cf53 10 = .ok (.ireturn, 1) := by decide +kernel
theorem dJ7_rangeCheck_23922_0 : decode cJ7_rangeCheck_23922 0 = .ok (.iload_n 1, 1) := by decide +kernel
theorem dJ7_rangeCheck_23922_1 : decode cJ7_rangeCheck_23922 1 = .ok (.iload_n 2, 1) := by decide +kernel
theorem dJ7_rangeCheck_23922_2 : decode cJ7_rangeCheck_23922 2 = .ok (.if_icmp .le 44, 3) := by decide +kernel
theorem dJ7_rangeCheck_23922_5 : decode cJ7_rangeCheck_23922 5 = .ok (.new 43, 3) := by decide +kernel
theorem dJ7_rangeCheck_23922_8 : decode cJ7_rangeCheck_23922 8 = .ok (.dup, 1) := by decide +kernel
theorem dJ7_rangeCheck_23922_9 : decode cJ7_rangeCheck_23922 9 = .ok (.new 45, 3) := by decide +kernel
theorem dJ7_rangeCheck_23922_12 : decode cJ7_rangeCheck_23922 12 = .ok (.dup, 1) := by decide +kernel
theorem dJ7_rangeCheck_23922_13 : decode cJ7_rangeCheck_23922 13 = .ok (.invokespecial 47, 3) := by decide +kernel
theorem dJ7_rangeCheck_23922_16 : decode cJ7_rangeCheck_23922 16 = .ok (.ldc 48, 2) := by decide +kernel
theorem dJ7_rangeCheck_23922_18 : decode cJ7_rangeCheck_23922 18 = .ok (.invokevirtual 50, 3) := by decide +kernel
theorem dJ7_rangeCheck_23922_21 : decode cJ7_rangeCheck_23922 21 = .ok (.iload_n 1, 1) := by decide +kernel
theorem dJ7_rangeCheck_23922_22 : decode cJ7_rangeCheck_23922 22 = .ok (.invokevirtual 54, 3) := by decide +kernel
theorem dJ7_rangeCheck_23922_25 : decode cJ7_rangeCheck_23922 25 = .ok (.ldc 57, 2) := by decide +kernel
theorem dJ7_rangeCheck_23922_27 : decode cJ7_rangeCheck_23922 27 = .ok (.invokevirtual 50, 3) := by decide +kernel
theorem dJ7_rangeCheck_23922_30 : decode cJ7_rangeCheck_23922 30 = .ok (.iload_n 2, 1) := by decide +kernel
theorem dJ7_rangeCheck_23922_31 : decode cJ7_rangeCheck_23922 31 = .ok (.invokevirtual 54, 3) := by decide +kernel
theorem dJ7_rangeCheck_23922_34 : decode cJ7_rangeCheck_23922 34 = .ok (.ldc 59, 2) := by decide +kernel
theorem dJ7_rangeCheck_23922_36 : decode cJ7_rangeCheck_23922 36 = .ok (.invokevirtual 50, 3) := by decide +kernel
theorem dJ7_rangeCheck_23922_39 : decode cJ7_rangeCheck_23922 39 = .ok (.invokevirtual 61, 3) := by decide +kernel
theorem dJ7_rangeCheck_23922_42 : decode cJ7_rangeCheck_23922 42 = .ok (.invokespecial 65, 3) := by decide +kernel
theorem dJ7_rangeCheck_23922_45 : decode cJ7_rangeCheck_23922 45 = .ok (.athrow, 1) := by decide +kernel
theorem dJ7_rangeCheck_23922_46 : decode cJ7_rangeCheck_23922 46 = .ok (.iload_n 1, 1) := by decide +kernel
theorem dJ7_rangeCheck_23922_47 : decode cJ7_rangeCheck_23922 47 = .ok (.ifCond .ge 12, 3) := by decide +kernel
theorem dJ7_rangeCheck_23922_50 : decode cJ7_rangeCheck_23922 50 = .ok (.new 68, 3) := by decide +kernel
theorem dJ7_rangeCheck_23922_53 : decode cJ7_rangeCheck_23922 53 = .ok (.dup, 1) := by decide +kernel
theorem dJ7_rangeCheck_23922_54 : decode cJ7_rangeCheck_23922 54 = .ok (.iload_n 1, 1) := by decide +kernel
theorem dJ7_rangeCheck_23922_55 : decode cJ7_rangeCheck_23922 55 = .ok (.invokespecial 70, 3) := by decide +kernel
theorem dJ7_rangeCheck_23922_58 : decode cJ7_rangeCheck_23922 58 = .ok (.athrow, 1) := by decide +kernel
theorem dJ7_rangeCheck_23922_59 : decode cJ7_rangeCheck_23922 59 = .ok (.iload_n 2, 1) := by decide +kernel
theorem dJ7_rangeCheck_23922_60 : decode cJ7_rangeCheck_23922 60 = .ok (.iload_n 0, 1) := by decide +kernel
theorem dJ7_rangeCheck_23922_61 : decode cJ7_rangeCheck_23922 61 = .ok (.if_icmp .le 12, 3) := by decide +kernel
theorem dJ7_rangeCheck_23922_64 : decode cJ7_rangeCheck_23922 64 = .ok (.new 68, 3) := by decide +kernel
theorem dJ7_rangeCheck_23922_67 : decode cJ7_rangeCheck_23922 67 = .ok (.dup, 1) := by decide +kernel
theorem dJ7_rangeCheck_23922_68 : decode cJ7_rangeCheck_23922 68 = .ok (.iload_n 2, 1) := by decide +kernel
theorem dJ7_rangeCheck_23922_69 : decode cJ7_rangeCheck_23922 69 = .ok (.invokespecial 70, 3) := by decide +kernel
theorem dJ7_rangeCheck_23922_72 : decode cJ7_rangeCheck_23922 72 = .ok (.athrow, 1) := by decide +kernel
theorem dJ7_rangeCheck_23922_73 : decode cJ7_rangeCheck_23922 73 = .ok (.return_, 1) := by decide +kernel
theorem dJ7_fill_53178_0 : decode cJ7_fill_53178 0 = .ok (.iconst 0, 1) := by decide +kernel
theorem dJ7_fill_53178_1 : decode cJ7_fill_53178 1 = .ok (.istore_n 2, 1) := by decide +kernel
theorem dJ7_fill_53178_2 : decode cJ7_fill_53178 2 = .ok (.aload_n 0, 1) := by decide +kernel
theorem dJ7_fill_53178_3 : decode cJ7_fill_53178 3 = .ok (.arraylength, 1) := by decide +kernel
theorem dJ7_fill_53178_4 : decode cJ7_fill_53178 4 = .ok (.istore_n 3, 1) := by decide +kernel
theorem dJ7_fill_53178_5 : decode cJ7_fill_53178 5 = .ok (.iload_n 2, 1) := by decide +kernel
theorem dJ7_fill_53178_6 : decode cJ7_fill_53178 6 = .ok (.iload_n 3, 1) := by decide +kernel
theorem dJ7_fill_53178_7 : decode cJ7_fill_53178 7 = .ok (.if_icmp .ge 13, 3) := by decide +kernel
theorem dJ7_fill_53178_10 : decode cJ7_fill_53178 10 = .ok (.aload_n 0, 1) := by decide +kernel
theorem dJ7_fill_53178_11 : decode cJ7_fill_53178 11 = .ok (.iload_n 2, 1) := by decide +kernel
theorem dJ7_fill_53178_12 : decode cJ7_fill_53178 12 = .ok (.iload_n 1, 1) := by decide +kernel
theorem dJ7_fill_53178_13 : decode cJ7_fill_53178 13 = .ok (.iastore, 1) := by decide +kernel
theorem dJ7_fill_53178_14 : decode cJ7_fill_53178 14 = .ok (.iinc 2 1, 3) := by decide +kernel
theorem dJ7_fill_53178_17 : decode cJ7_fill_53178 17 = .ok (.goto (-12), 3) := by decide +kernel
theorem dJ7_fill_53178_20 : decode cJ7_fill_53178 20 = .ok (.return_, 1) := by decide +kernel
set_option maxRecDepth 20000 in
theorem ggJ7_fill_fda19_J7_rangeCheck_23922 : GoodIn wsJ7_fill_fda19 wsJ7_rangeCheck_23922 := goodIn_r _ [4] (by decide +kernel) (by decide +kernel)
set_option maxRecDepth 20000 in
theorem gJ7_fill_fda19_J7_rangeCheck_23922 : GoodIn wsJ7_fill_fda19 (va_wsS RJ7 13 yJ7_rangeCheck_23922 wsJ7_rangeCheck_23922) := goodIn_app (goodIn_of _ (by decide +kernel)) ggJ7_fill_fda19_J7_rangeCheck_23922
theorem dJ7_fill_fda19_0 : decode cJ7_fill_fda19 0 = .ok (.aload_n 0, 1) := by decide +kernel
theorem dJ7_fill_fda19_1 : decode cJ7_fill_fda19 1 = .ok (.arraylength, 1) := by decide +kernel
theorem dJ7_fill_fda19_2 : decode cJ7_fill_fda19 2 = .ok (.iload_n 1, 1) := by decide +kernel
theorem dJ7_fill_fda19_3 : decode cJ7_fill_fda19 3 = .ok (.iload_n 2, 1) := by decide +kernel
theorem dJ7_fill_fda19_4 : decode cJ7_fill_fda19 4 = .ok (.invokestatic 13, 3) := by decide +kernel
theorem dJ7_fill_fda19_7 : decode cJ7_fill_fda19 7 = .ok (.iload_n 1, 1) := by decide +kernel
theorem dJ7_fill_fda19_8 : decode cJ7_fill_fda19 8 = .ok (.istore 4, 2) := by decide +kernel
theorem dJ7_fill_fda19_10 : decode cJ7_fill_fda19 10 = .ok (.iload 4, 2) := by decide +kernel
theorem dJ7_fill_fda19_12 : decode cJ7_fill_fda19 12 = .ok (.iload_n 2, 1) := by decide +kernel
theorem dJ7_fill_fda19_13 : decode cJ7_fill_fda19 13 = .ok (.if_icmp .ge 14, 3) := by decide +kernel
theorem dJ7_fill_fda19_16 : decode cJ7_fill_fda19 16 = .ok (.aload_n 0, 1) := by decide +kernel
theorem dJ7_fill_fda19_17 : decode cJ7_fill_fda19 17 = .ok (.iload 4, 2) := by decide +kernel
theorem dJ7_fill_fda19_19 : decode cJ7_fill_fda19 19 = .ok (.iload_n 3, 1) := by decide +kernel
theorem dJ7_fill_fda19_20 : decode cJ7_fill_fda19 20 = .ok (.iastore, 1) := by decide +kernel
theorem dJ7_fill_fda19_21 : decode cJ7_fill_fda19 21 = .ok (.iinc 4 1, 3) := by decide +kernel
theorem dJ7_fill_fda19_24 : decode cJ7_fill_fda19 24 = .ok (.goto (-14), 3) := by decide +kernel
theorem dJ7_fill_fda19_27 : decode cJ7_fill_fda19 27 = .ok (.return_, 1) := by decide +kernel
set_option maxRecDepth 20000 in
theorem ggL_law_X7_init : GoodIn wsL_law wsX7_init := goodIn_r _ [8, 9, 10, 11, 12, 13, 14, 15, 16, 17, 18, 19, 20, 21, 22, 23, 24, 25, 26, 27, 28, 29, 30, 31, 32, 33, 34, 35, 36, 37, 38, 39, 40, 41, 42, 43, 44, 45, 46, 47, 48, 49, 50, 51, 52, 53, 54, 55, 56, 57, 58, 59, 60, 61, 62, 63, 64, 65, 66, 67, 68, 69, 70, 71, 72, 73, 74, 75, 76, 77, 78, 79, 80, 81, 82, 83, 84, 85, 86, 87, 88, 89, 90, 91, 92, 93, 94, 95, 96, 97, 642, 643, 644, 645, 646, 647, 648, 625, 626, 627, 628, 629, 630, 631, 649, 650, 651, 652, 653, 654, 655, 656, 657, 658, 659, 660, 661, 662, 663, 664, 665, 666, 667, 668, 669] (by decide +kernel) (by decide +kernel)
set_option maxRecDepth 20000 in
theorem gL_law_X7_init : GoodIn wsL_law (wsX7_init) := ggL_law_X7_init
set_option maxRecDepth 20000 in
theorem ggL_law_X8_init : GoodIn wsL_law wsX8_init := goodIn_r _ [100, 101, 10, 11, 50, 102, 103, 104, 105, 106, 107, 108, 109, 110, 111, 632, 633, 634, 635, 636, 637, 638, 639, 640, 641] (by decide +kernel) (by decide +kernel)
set_option maxRecDepth 20000 in
theorem gL_law_X8_init : GoodIn wsL_law (wsX8_init) := ggL_law_X8_init
set_option maxRecDepth 20000 in
theorem ggL_law_X7_clear : GoodIn wsL_law wsX7_clear := goodIn_r _ [115, 15, 116, 16, 23, 117, 118, 119, 120, 625, 626, 627, 628, 629, 630, 631, 642, 643, 644, 645, 646, 647, 648] (by decide +kernel) (by decide +kernel)
set_option maxRecDepth 20000 in
theorem gL_law_X7_clear : GoodIn wsL_law (wsV RL 13 RX7 yX7_clear wsX7_clear) := goodIn_app (goodIn_of _ (by decide +kernel)) ggL_law_X7_clear
set_option maxRecDepth 20000 in
theorem ggL_law_X8_clear : GoodIn wsL_law wsX8_clear := goodIn_r _ [124, 125, 106, 632, 633, 634, 635, 636, 637, 638, 639, 640, 641] (by decide +kernel) (by decide +kernel)
set_option maxRecDepth 20000 in
theorem gL_law_X8_clear : GoodIn wsL_law (wsV RL 17 RX8 yX8_clear wsX8_clear) := goodIn_app (goodIn_of _ (by decide +kernel)) ggL_law_X8_clear
set_option maxRecDepth 20000 in
theorem ggL_law_X7_note : GoodIn wsL_law wsX7_note := goodIn_r _ [129, 15, 116, 130, 131, 2, 132, 133, 134, 135, 136, 137, 138, 139, 14, 140, 141, 54, 55, 142, 143, 144, 145, 51, 52, 53, 146, 147, 148, 149, 56, 150, 151, 152, 153, 625, 626, 627, 628, 629, 630, 631, 642, 643, 644, 645, 646, 647, 648] (by decide +kernel) (by decide +kernel)
set_option maxRecDepth 20000 in
theorem gL_law_X7_note : GoodIn wsL_law (wsV RL 18 RX7 yX7_note wsX7_note) := goodIn_app (goodIn_of _ (by decide +kernel)) ggL_law_X7_note
set_option maxRecDepth 20000 in
theorem ggL_law_X8_note : GoodIn wsL_law wsX8_note := goodIn_r _ [157, 125, 102, 103, 104, 105, 158, 159, 5, 160, 161, 162, 163, 164, 165, 107, 166, 167, 168, 169, 170, 171, 172, 173, 632, 633, 634, 635, 636, 637, 638, 639, 640, 641] (by decide +kernel) (by decide +kernel)
set_option maxRecDepth 20000 in
theorem gL_law_X8_note : GoodIn wsL_law (wsV RL 22 RX8 yX8_note wsX8_note) := goodIn_app (goodIn_of _ (by decide +kernel)) ggL_law_X8_note
set_option maxRecDepth 20000 in
theorem ggL_law_X7_move : GoodIn wsL_law wsX7_move := goodIn_r _ [177, 15, 178, 179, 180, 14, 181, 141, 135, 2, 136, 130, 131, 132, 133, 134, 182, 143, 144, 145, 51, 52, 53, 146, 147, 148, 149, 55, 56, 150, 151, 152, 153, 625, 626, 627, 628, 629, 630, 631, 642, 643, 644, 645, 646, 647, 648] (by decide +kernel) (by decide +kernel)
set_option maxRecDepth 20000 in
theorem gL_law_X7_move : GoodIn wsL_law (wsV RL 23 RX7 yX7_move wsX7_move) := goodIn_app (goodIn_of _ (by decide +kernel)) ggL_law_X7_move
set_option maxRecDepth 20000 in
theorem ggL_law_X8_move : GoodIn wsL_law wsX8_move := goodIn_r _ [186, 125, 102, 103, 104, 158, 159, 5, 160, 161, 162, 163, 164, 165, 107, 166, 167, 168, 169, 170, 171, 172, 173, 632, 633, 634, 635, 636, 637, 638, 639, 640, 641] (by decide +kernel) (by decide +kernel)
set_option maxRecDepth 20000 in
theorem gL_law_X8_move : GoodIn wsL_law (wsV RL 27 RX8 yX8_move wsX8_move) := goodIn_app (goodIn_of _ (by decide +kernel)) ggL_law_X8_move
set_option maxRecDepth 20000 in
theorem ggL_law_X7_weigh : GoodIn wsL_law wsX7_weigh := goodIn_r _ [190, 23, 134, 135, 2, 136, 625, 626, 627, 628, 629, 630, 631] (by decide +kernel) (by decide +kernel)
set_option maxRecDepth 20000 in
theorem gL_law_X7_weigh : GoodIn wsL_law (wsV RL 28 RX7 yX7_weigh wsX7_weigh) := goodIn_app (goodIn_of _ (by decide +kernel)) ggL_law_X7_weigh
set_option maxRecDepth 20000 in
theorem ggL_law_X8_weigh : GoodIn wsL_law wsX8_weigh := goodIn_r _ [194, 106, 632, 633, 634, 635, 636, 637, 638, 639, 640, 641] (by decide +kernel) (by decide +kernel)
set_option maxRecDepth 20000 in
theorem gL_law_X8_weigh : GoodIn wsL_law (wsV RL 32 RX8 yX8_weigh wsX8_weigh) := goodIn_app (goodIn_of _ (by decide +kernel)) ggL_law_X8_weigh
set_option maxRecDepth 20000 in
theorem ggL_law_X7_put : GoodIn wsL_law wsX7_put := goodIn_r _ [198, 15, 199, 178, 179, 180, 14, 181, 141, 135, 2, 136, 134, 625, 626, 627, 628, 629, 630, 631, 642, 643, 644, 645, 646, 647, 648] (by decide +kernel) (by decide +kernel)
set_option maxRecDepth 20000 in
theorem gL_law_X7_put : GoodIn wsL_law (wsV RL 33 RX7 yX7_put wsX7_put) := goodIn_app (goodIn_of _ (by decide +kernel)) ggL_law_X7_put
set_option maxRecDepth 20000 in
theorem ggL_law_X8_put : GoodIn wsL_law wsX8_put := goodIn_r _ [203, 125, 105, 632, 633, 634, 635, 636, 637, 638, 639, 640, 641] (by decide +kernel) (by decide +kernel)
set_option maxRecDepth 20000 in
theorem gL_law_X8_put : GoodIn wsL_law (wsV RL 36 RX8 yX8_put wsX8_put) := goodIn_app (goodIn_of _ (by decide +kernel)) ggL_law_X8_put
set_option maxRecDepth 20000 in
theorem ggL_law_X7_find : GoodIn wsL_law wsX7_find := goodIn_r _ [207, 42, 208, 209, 210, 2, 211, 15, 116, 134, 135, 136, 212, 213, 214, 41, 215, 216, 90, 217, 218, 219, 220, 87, 89, 221, 88, 222, 223, 224, 225, 226, 227, 228, 229, 50, 230, 231, 232, 233, 234, 235, 236, 237, 238, 239, 38, 240, 80, 241, 242, 243, 244, 245, 246, 247, 248, 249, 250, 251, 252, 253, 254, 255, 256, 257, 82, 81, 258, 259, 260, 261, 262, 263, 264, 265, 266, 267, 268, 269, 270, 271, 272, 273, 274, 275, 276, 277, 278, 279, 280, 281, 625, 626, 627, 628, 629, 630, 631, 642, 643, 644, 645, 646, 647, 648, 662, 663, 664, 665, 666, 659, 660, 661] (by decide +kernel) (by decide +kernel)
set_option maxRecDepth 20000 in
theorem gL_law_X7_find : GoodIn wsL_law (wsV RL 37 RX7 yX7_find wsX7_find) := goodIn_app (goodIn_of _ (by decide +kernel)) ggL_law_X7_find
set_option maxRecDepth 20000 in
theorem ggL_law_X8_find : GoodIn wsL_law wsX8_find := goodIn_r _ [285, 286, 287, 288, 5, 289, 125, 290, 291, 292, 293, 294, 109, 111, 108, 295, 296, 297, 298, 299, 300, 301, 302, 303, 304, 305, 306, 307, 308, 309, 310, 311, 312, 313, 314, 315, 107, 106, 104, 102, 103, 316, 317, 318, 319, 320, 321, 322, 323, 105, 632, 633, 634, 635, 636, 637, 638, 639, 640, 641] (by decide +kernel) (by decide +kernel)
set_option maxRecDepth 20000 in
theorem gL_law_X8_find : GoodIn wsL_law (wsV RL 41 RX8 yX8_find wsX8_find) := goodIn_app (goodIn_of _ (by decide +kernel)) ggL_law_X8_find
set_option maxRecDepth 20000 in
theorem ggL_law_X7_least : GoodIn wsL_law wsX7_least := goodIn_r _ [211, 15, 116, 42, 134, 135, 2, 136, 212, 213, 214, 41, 215, 216, 90, 217, 218, 219, 220, 87, 89, 221, 88, 222, 223, 224, 225, 226, 227, 228, 229, 50, 230, 231, 232, 233, 234, 235, 236, 237, 238, 239, 38, 240, 80, 241, 242, 243, 244, 245, 246, 247, 248, 249, 250, 251, 252, 253, 254, 255, 256, 257, 82, 81, 258, 259, 260, 261, 262, 263, 264, 265, 266, 267, 268, 269, 270, 271, 272, 625, 626, 627, 628, 629, 630, 631, 642, 643, 644, 645, 646, 647, 648, 662, 663, 664, 665, 666, 659, 660, 661] (by decide +kernel) (by decide +kernel)
set_option maxRecDepth 20000 in
theorem gL_law_X7_least : GoodIn wsL_law (wsV RL 42 RX7 yX7_least wsX7_least) := goodIn_app (goodIn_of _ (by decide +kernel)) ggL_law_X7_least
set_option maxRecDepth 20000 in
theorem ggL_law_X8_least : GoodIn wsL_law wsX8_least := goodIn_r _ [289, 125, 290, 291, 292, 293, 5, 294, 109, 111, 108, 295, 296, 297, 298, 299, 300, 301, 302, 303, 304, 305, 306, 307, 308, 309, 310, 311, 312, 313, 314, 315, 107, 106, 104, 102, 103, 316, 317, 318, 319, 632, 633, 634, 635, 636, 637, 638, 639, 640, 641] (by decide +kernel) (by decide +kernel)
set_option maxRecDepth 20000 in
theorem gL_law_X8_least : GoodIn wsL_law (wsV RL 45 RX8 yX8_least wsX8_least) := goodIn_app (goodIn_of _ (by decide +kernel)) ggL_law_X8_least
set_option maxRecDepth 20000 in
theorem ggL_law_X7_along : GoodIn wsL_law wsX7_along := goodIn_r _ [329, 46, 134, 135, 2, 136, 330, 331, 332, 45, 333, 97, 96, 334, 335, 336, 95, 337, 338, 118, 119, 120, 339, 238, 239, 38, 240, 80, 241, 242, 232, 243, 340, 341, 342, 343, 344, 255, 256, 257, 82, 81, 258, 259, 260, 261, 262, 225, 263, 264, 265, 266, 267, 625, 626, 627, 628, 629, 630, 631, 667, 668, 669, 642, 643, 644, 645, 646, 647, 648, 659, 660, 661] (by decide +kernel) (by decide +kernel)
end
section
set_option maxRecDepth 20000 in
theorem gL_law_X7_along : GoodIn wsL_law (wsV RL 46 RX7 yX7_along wsX7_along) := goodIn_app (goodIn_of _ (by decide +kernel)) ggL_law_X7_along
set_option maxRecDepth 20000 in
theorem ggL_law_X8_along : GoodIn wsL_law wsX8_along := goodIn_r _ [348, 109, 125, 290, 108, 312, 313, 314, 5, 315, 107, 106, 104, 102, 103, 316, 317, 318, 319, 320, 321, 322, 323, 105, 632, 633, 634, 635, 636, 637, 638, 639, 640, 641] (by decide +kernel) (by decide +kernel)
set_option maxRecDepth 20000 in
theorem gL_law_X8_along : GoodIn wsL_law (wsV RL 49 RX8 yX8_along wsX8_along) := goodIn_app (goodIn_of _ (by decide +kernel)) ggL_law_X8_along
set_option maxRecDepth 20000 in
theorem ggL_law_X7_cost : GoodIn wsL_law wsX7_cost := goodIn_r _ [352, 15, 35, 134, 135, 2, 136, 353, 354, 355, 14, 356, 141, 54, 357, 358, 359, 360, 56, 55, 361, 362, 363, 364, 51, 52, 365, 366, 367, 34, 368, 369, 370, 371, 372, 73, 373, 374, 375, 262, 225, 263, 74, 376, 377, 378, 379, 380, 381, 382, 383, 384, 385, 386, 75, 387, 388, 389, 30, 390, 68, 391, 392, 393, 394, 395, 396, 397, 398, 399, 400, 401, 402, 403, 404, 405, 406, 407, 408, 409, 410, 411, 412, 413, 414, 415, 416, 417, 418, 419, 420, 421, 422, 423, 424, 425, 426, 427, 625, 626, 627, 628, 629, 630, 631, 642, 643, 644, 645, 646, 647, 648, 656, 657, 658, 653, 654, 655] (by decide +kernel) (by decide +kernel)
set_option maxRecDepth 20000 in
theorem gL_law_X7_cost : GoodIn wsL_law (wsV RL 50 RX7 yX7_cost wsX7_cost) := goodIn_app (goodIn_of _ (by decide +kernel)) ggL_law_X7_cost
set_option maxRecDepth 20000 in
theorem ggL_law_X8_cost : GoodIn wsL_law wsX8_cost := goodIn_r _ [431, 125, 104, 102, 103, 106, 432, 433, 434, 5, 435, 105, 436, 437, 438, 439, 316, 317, 318, 319, 440, 441, 442, 443, 107, 166, 167, 168, 169, 170, 171, 172, 173, 444, 445, 446, 447, 448, 449, 450, 451, 452, 453, 454, 455, 456, 457, 458, 459, 460, 461, 462, 463, 632, 633, 634, 635, 636, 637, 638, 639, 640, 641] (by decide +kernel) (by decide +kernel)
set_option maxRecDepth 20000 in
theorem gL_law_X8_cost : GoodIn wsL_law (wsV RL 53 RX8 yX8_cost wsX8_cost) := goodIn_app (goodIn_of _ (by decide +kernel)) ggL_law_X8_cost
set_option maxRecDepth 20000 in
theorem ggL_law_X7_of : GoodIn wsL_law wsX7_of := goodIn_r _ [467, 15, 468, 469, 470, 199, 471, 178, 179, 180, 14, 181, 141, 135, 2, 136, 472, 358, 359, 360, 54, 56, 55, 473, 474, 475, 476, 361, 362, 363, 364, 51, 52, 625, 626, 627, 628, 629, 630, 631, 642, 643, 644, 645, 646, 647, 648] (by decide +kernel) (by decide +kernel)
set_option maxRecDepth 20000 in
theorem gL_law_X7_of : GoodIn wsL_law (wsV RL 54 RX7 yX7_of wsX7_of) := goodIn_app (goodIn_of _ (by decide +kernel)) ggL_law_X7_of
set_option maxRecDepth 20000 in
theorem ggL_law_X8_of : GoodIn wsL_law wsX8_of := goodIn_r _ [480, 125, 102, 103, 104, 105, 166, 167, 168, 5, 169, 170, 171, 172, 173, 440, 441, 442, 443, 107, 436, 437, 438, 439, 316, 317, 318, 319, 632, 633, 634, 635, 636, 637, 638, 639, 640, 641] (by decide +kernel) (by decide +kernel)
set_option maxRecDepth 20000 in
theorem gL_law_X8_of : GoodIn wsL_law (wsV RL 57 RX8 yX8_of wsX8_of) := goodIn_app (goodIn_of _ (by decide +kernel)) ggL_law_X8_of
set_option maxRecDepth 20000 in
theorem ggL_law_X7_ranked : GoodIn wsL_law wsX7_ranked := goodIn_r _ [484, 15, 116, 485, 134, 135, 2, 136, 625, 626, 627, 628, 629, 630, 631, 642, 643, 644, 645, 646, 647, 648] (by decide +kernel) (by decide +kernel)
set_option maxRecDepth 20000 in
theorem gL_law_X7_ranked : GoodIn wsL_law (wsV RL 58 RX7 yX7_ranked wsX7_ranked) := goodIn_app (goodIn_of _ (by decide +kernel)) ggL_law_X7_ranked
set_option maxRecDepth 20000 in
theorem ggL_law_X8_ranked : GoodIn wsL_law wsX8_ranked := goodIn_r _ [489, 125, 107, 632, 633, 634, 635, 636, 637, 638, 639, 640, 641] (by decide +kernel) (by decide +kernel)
set_option maxRecDepth 20000 in
theorem gL_law_X8_ranked : GoodIn wsL_law (wsV RL 61 RX8 yX8_ranked wsX8_ranked) := goodIn_app (goodIn_of _ (by decide +kernel)) ggL_law_X8_ranked
set_option maxRecDepth 20000 in
theorem ggL_law_X7_sounding : GoodIn wsL_law wsX7_sounding := goodIn_r _ [493, 133, 15, 134, 135, 2, 136, 494, 495, 496, 14, 497, 141, 51, 52, 625, 626, 627, 628, 629, 630, 631, 642, 643, 644, 645, 646, 647, 648] (by decide +kernel) (by decide +kernel)
set_option maxRecDepth 20000 in
theorem gL_law_X7_sounding : GoodIn wsL_law (wsV RL 62 RX7 yX7_sounding wsX7_sounding) := goodIn_app (goodIn_of _ (by decide +kernel)) ggL_law_X7_sounding
set_option maxRecDepth 20000 in
theorem ggL_law_X8_sounding : GoodIn wsL_law wsX8_sounding := goodIn_r _ [501, 161, 502, 503, 504, 5, 505, 125, 102, 103, 632, 633, 634, 635, 636, 637, 638, 639, 640, 641] (by decide +kernel) (by decide +kernel)
set_option maxRecDepth 20000 in
theorem gL_law_X8_sounding : GoodIn wsL_law (wsV RL 65 RX8 yX8_sounding wsX8_sounding) := goodIn_app (goodIn_of _ (by decide +kernel)) ggL_law_X8_sounding
set_option maxRecDepth 20000 in
theorem ggL_law_X7_needed : GoodIn wsL_law wsX7_needed := goodIn_r _ [509, 15, 510, 511, 512, 14, 513, 141, 51, 514, 224, 225, 226, 515, 495, 496, 497, 52, 625, 626, 627, 628, 629, 630, 631, 642, 643, 644, 645, 646, 647, 648] (by decide +kernel) (by decide +kernel)
set_option maxRecDepth 20000 in
theorem gL_law_X7_needed : GoodIn wsL_law (wsV RL 66 RX7 yX7_needed wsX7_needed) := goodIn_app (goodIn_of _ (by decide +kernel)) ggL_law_X7_needed
set_option maxRecDepth 20000 in
theorem ggL_law_X8_needed : GoodIn wsL_law wsX8_needed := goodIn_r _ [519, 125, 102, 502, 503, 504, 5, 505, 103, 632, 633, 634, 635, 636, 637, 638, 639, 640, 641] (by decide +kernel) (by decide +kernel)
set_option maxRecDepth 20000 in
theorem gL_law_X8_needed : GoodIn wsL_law (wsV RL 69 RX8 yX8_needed wsX8_needed) := goodIn_app (goodIn_of _ (by decide +kernel)) ggL_law_X8_needed
set_option maxRecDepth 20000 in
theorem ggL_law_X7_rests : GoodIn wsL_law wsX7_rests := goodIn_r _ [523, 27, 524, 134, 135, 2, 136, 525, 526, 527, 26, 528, 529, 63, 530, 531, 532, 533, 534, 224, 225, 226, 535, 536, 537, 538, 539, 540, 541, 542, 543, 61, 62, 544, 545, 546, 14, 547, 141, 52, 514, 625, 626, 627, 628, 629, 630, 631, 649, 650, 651, 652, 642, 643, 644, 645, 646, 647, 648] (by decide +kernel) (by decide +kernel)
set_option maxRecDepth 20000 in
theorem gL_law_X7_rests : GoodIn wsL_law (wsV RL 70 RX7 yX7_rests wsX7_rests) := goodIn_app (goodIn_of _ (by decide +kernel)) ggL_law_X7_rests
set_option maxRecDepth 20000 in
theorem ggL_law_X8_rests : GoodIn wsL_law wsX8_rests := goodIn_r _ [551, 552, 553, 554, 5, 555, 556, 557, 558, 559, 125, 103, 560, 561, 562, 563, 102, 564, 565, 566, 567, 105, 568, 569, 570, 571, 632, 633, 634, 635, 636, 637, 638, 639, 640, 641] (by decide +kernel) (by decide +kernel)
set_option maxRecDepth 20000 in
theorem gL_law_X8_rests : GoodIn wsL_law (wsV RL 73 RX8 yX8_rests wsX8_rests) := goodIn_app (goodIn_of _ (by decide +kernel)) ggL_law_X8_rests
set_option maxRecDepth 20000 in
theorem ggL_law_X7_rest : GoodIn wsL_law wsX7_rest := goodIn_r _ [575, 27, 524, 576, 577, 134, 135, 2, 136, 525, 526, 527, 26, 528, 529, 63, 530, 531, 532, 533, 534, 224, 225, 226, 535, 536, 537, 538, 539, 540, 541, 542, 543, 61, 62, 544, 545, 546, 14, 547, 141, 52, 514, 625, 626, 627, 628, 629, 630, 631, 649, 650, 651, 652, 642, 643, 644, 645, 646, 647, 648] (by decide +kernel) (by decide +kernel)
set_option maxRecDepth 20000 in
theorem gL_law_X7_rest : GoodIn wsL_law (wsV RL 74 RX7 yX7_rest wsX7_rest) := goodIn_app (goodIn_of _ (by decide +kernel)) ggL_law_X7_rest
set_option maxRecDepth 20000 in
theorem ggL_law_X8_rest : GoodIn wsL_law wsX8_rest := goodIn_r _ [581, 552, 553, 554, 5, 555, 556, 557, 558, 559, 125, 103, 560, 561, 562, 563, 102, 564, 565, 566, 567, 105, 568, 569, 570, 571, 632, 633, 634, 635, 636, 637, 638, 639, 640, 641] (by decide +kernel) (by decide +kernel)
set_option maxRecDepth 20000 in
theorem gL_law_X8_rest : GoodIn wsL_law (wsV RL 77 RX8 yX8_rest wsX8_rest) := goodIn_app (goodIn_of _ (by decide +kernel)) ggL_law_X8_rest
set_option maxRecDepth 20000 in
theorem ggL_law_X7_pairs : GoodIn wsL_law wsX7_pairs := goodIn_r _ [585, 31, 134, 135, 2, 136, 586, 388, 389, 30, 390, 68, 391, 392, 393, 394, 395, 396, 397, 398, 399, 400, 362, 363, 14, 364, 51, 52, 401, 402, 403, 404, 405, 406, 407, 408, 409, 410, 411, 412, 413, 414, 415, 625, 626, 627, 628, 629, 630, 631, 653, 654, 655, 642, 643, 644, 645, 646, 647, 648] (by decide +kernel) (by decide +kernel)
set_option maxRecDepth 20000 in
theorem gL_law_X7_pairs : GoodIn wsL_law (wsV RL 78 RX7 yX7_pairs wsX7_pairs) := goodIn_app (goodIn_of _ (by decide +kernel)) ggL_law_X7_pairs
set_option maxRecDepth 20000 in
theorem ggL_law_X8_pairs : GoodIn wsL_law wsX8_pairs := goodIn_r _ [447, 448, 449, 450, 5, 451, 125, 107, 452, 453, 454, 455, 105, 104, 102, 103, 316, 317, 318, 319, 632, 633, 634, 635, 636, 637, 638, 639, 640, 641] (by decide +kernel) (by decide +kernel)
set_option maxRecDepth 20000 in
theorem gL_law_X8_pairs : GoodIn wsL_law (wsV RL 81 RX8 yX8_pairs wsX8_pairs) := goodIn_app (goodIn_of _ (by decide +kernel)) ggL_law_X8_pairs
set_option maxRecDepth 20000 in
theorem ggL_law_X7_pair : GoodIn wsL_law wsX7_pair := goodIn_r _ [591, 31, 592, 593, 134, 135, 2, 136, 586, 388, 389, 30, 390, 68, 391, 392, 393, 394, 395, 396, 397, 398, 399, 400, 362, 363, 14, 364, 51, 52, 401, 402, 403, 404, 405, 406, 407, 408, 409, 410, 411, 412, 413, 414, 415, 625, 626, 627, 628, 629, 630, 631, 653, 654, 655, 642, 643, 644, 645, 646, 647, 648] (by decide +kernel) (by decide +kernel)
set_option maxRecDepth 20000 in
theorem gL_law_X7_pair : GoodIn wsL_law (wsV RL 82 RX7 yX7_pair wsX7_pair) := goodIn_app (goodIn_of _ (by decide +kernel)) ggL_law_X7_pair
set_option maxRecDepth 20000 in
theorem ggL_law_X8_pair : GoodIn wsL_law wsX8_pair := goodIn_r _ [597, 448, 449, 450, 5, 451, 125, 107, 452, 453, 454, 455, 105, 104, 102, 103, 316, 317, 318, 319, 632, 633, 634, 635, 636, 637, 638, 639, 640, 641] (by decide +kernel) (by decide +kernel)
set_option maxRecDepth 20000 in
theorem gL_law_X8_pair : GoodIn wsL_law (wsV RL 85 RX8 yX8_pair wsX8_pair) := goodIn_app (goodIn_of _ (by decide +kernel)) ggL_law_X8_pair
set_option maxRecDepth 20000 in
theorem ggL_law_X7_voice : GoodIn wsL_law wsX7_voice := goodIn_r _ [601, 15, 134, 135, 2, 136, 602, 603, 604, 14, 605, 141, 54, 53, 606, 607, 608, 609, 514, 224, 225, 226, 610, 425, 426, 427, 625, 626, 627, 628, 629, 630, 631, 642, 643, 644, 645, 646, 647, 648] (by decide +kernel) (by decide +kernel)
set_option maxRecDepth 20000 in
theorem gL_law_X7_voice : GoodIn wsL_law (wsV RL 86 RX7 yX7_voice wsX7_voice) := goodIn_app (goodIn_of _ (by decide +kernel)) ggL_law_X7_voice
set_option maxRecDepth 20000 in
theorem ggL_law_X8_voice : GoodIn wsL_law wsX8_voice := goodIn_r _ [614, 125, 105, 104, 460, 461, 462, 5, 463, 632, 633, 634, 635, 636, 637, 638, 639, 640, 641] (by decide +kernel) (by decide +kernel)
set_option maxRecDepth 20000 in
theorem gL_law_X8_voice : GoodIn wsL_law (wsV RL 89 RX8 yX8_voice wsX8_voice) := goodIn_app (goodIn_of _ (by decide +kernel)) ggL_law_X8_voice
set_option maxRecDepth 20000 in
theorem ggL_law_X7_told : GoodIn wsL_law wsX7_told := goodIn_r _ [618, 15, 116, 610, 425, 426, 14, 427, 141, 54, 619, 545, 546, 547, 52, 514, 224, 225, 226, 353, 354, 355, 356, 357, 358, 359, 360, 56, 55, 361, 362, 363, 364, 51, 620, 421, 422, 423, 424, 625, 626, 627, 628, 629, 630, 631, 642, 643, 644, 645, 646, 647, 648] (by decide +kernel) (by decide +kernel)
set_option maxRecDepth 20000 in
theorem gL_law_X7_told : GoodIn wsL_law (wsV RL 90 RX7 yX7_told wsX7_told) := goodIn_app (goodIn_of _ (by decide +kernel)) ggL_law_X7_told
set_option maxRecDepth 20000 in
theorem ggL_law_X8_told : GoodIn wsL_law wsX8_told := goodIn_r _ [624, 125, 460, 461, 462, 5, 463, 105, 556, 557, 558, 559, 103, 432, 433, 434, 435, 436, 437, 438, 439, 316, 317, 318, 319, 102, 456, 457, 458, 459, 632, 633, 634, 635, 636, 637, 638, 639, 640, 641] (by decide +kernel) (by decide +kernel)
set_option maxRecDepth 20000 in
theorem gL_law_X8_told : GoodIn wsL_law (wsV RL 93 RX8 yX8_told wsX8_told) := goodIn_app (goodIn_of _ (by decide +kernel)) ggL_law_X8_told
theorem dL_law_0 : decode cL_law 0 = .ok (.new 7, 3) := by decide +kernel
theorem dL_law_3 : decode cL_law 3 = .ok (.dup, 1) := by decide +kernel
theorem dL_law_4 : decode cL_law 4 = .ok (.invokespecial 9, 3) := by decide +kernel
theorem dL_law_7 : decode cL_law 7 = .ok (.astore_n 1, 1) := by decide +kernel
theorem dL_law_8 : decode cL_law 8 = .ok (.new 10, 3) := by decide +kernel
theorem dL_law_11 : decode cL_law 11 = .ok (.dup, 1) := by decide +kernel
theorem dL_law_12 : decode cL_law 12 = .ok (.invokespecial 12, 3) := by decide +kernel
theorem dL_law_15 : decode cL_law 15 = .ok (.astore_n 2, 1) := by decide +kernel
theorem dL_law_16 : decode cL_law 16 = .ok (.iconst 0, 1) := by decide +kernel
theorem dL_law_17 : decode cL_law 17 = .ok (.istore_n 3, 1) := by decide +kernel
theorem dL_law_18 : decode cL_law 18 = .ok (.iload_n 3, 1) := by decide +kernel
theorem dL_law_19 : decode cL_law 19 = .ok (.aload_n 0, 1) := by decide +kernel
theorem dL_law_20 : decode cL_law 20 = .ok (.arraylength, 1) := by decide +kernel
theorem dL_law_21 : decode cL_law 21 = .ok (.iconst 5, 1) := by decide +kernel
theorem dL_law_22 : decode cL_law 22 = .ok (.isub, 1) := by decide +kernel
theorem dL_law_23 : decode cL_law 23 = .ok (.if_icmp .gt 654, 3) := by decide +kernel
theorem dL_law_26 : decode cL_law 26 = .ok (.aload_n 0, 1) := by decide +kernel
theorem dL_law_27 : decode cL_law 27 = .ok (.iload_n 3, 1) := by decide +kernel
theorem dL_law_28 : decode cL_law 28 = .ok (.iaload, 1) := by decide +kernel
theorem dL_law_29 : decode cL_law 29 = .ok (.bipush 31, 2) := by decide +kernel
theorem dL_law_31 : decode cL_law 31 = .ok (.iand, 1) := by decide +kernel
theorem dL_law_32 : decode cL_law 32 = .ok (.tableswitch 639 0 18 #[92, 105, 148, 201, 234, 267, 290, 313, 336, 359, 392, 415, 438, 451, 474, 517, 540, 583, 616], 92) := by decide +kernel
theorem dL_law_124 : decode cL_law 124 = .ok (.aload_n 1, 1) := by decide +kernel
theorem dL_law_125 : decode cL_law 125 = .ok (.invokevirtual 13, 3) := by decide +kernel
theorem dL_law_128 : decode cL_law 128 = .ok (.aload_n 2, 1) := by decide +kernel
theorem dL_law_129 : decode cL_law 129 = .ok (.invokevirtual 17, 3) := by decide +kernel
theorem dL_law_132 : decode cL_law 132 = .ok (.if_icmp .eq 539, 3) := by decide +kernel
theorem dL_law_135 : decode cL_law 135 = .ok (.iconst 0, 1) := by decide +kernel
theorem dL_law_136 : decode cL_law 136 = .ok (.ireturn, 1) := by decide +kernel
theorem dL_law_137 : decode cL_law 137 = .ok (.aload_n 1, 1) := by decide +kernel
theorem dL_law_138 : decode cL_law 138 = .ok (.aload_n 0, 1) := by decide +kernel
theorem dL_law_139 : decode cL_law 139 = .ok (.iload_n 3, 1) := by decide +kernel
theorem dL_law_140 : decode cL_law 140 = .ok (.iconst 1, 1) := by decide +kernel
theorem dL_law_141 : decode cL_law 141 = .ok (.iadd, 1) := by decide +kernel
theorem dL_law_142 : decode cL_law 142 = .ok (.iaload, 1) := by decide +kernel
theorem dL_law_143 : decode cL_law 143 = .ok (.aload_n 0, 1) := by decide +kernel
theorem dL_law_144 : decode cL_law 144 = .ok (.iload_n 3, 1) := by decide +kernel
theorem dL_law_145 : decode cL_law 145 = .ok (.iconst 2, 1) := by decide +kernel
theorem dL_law_146 : decode cL_law 146 = .ok (.iadd, 1) := by decide +kernel
theorem dL_law_147 : decode cL_law 147 = .ok (.iaload, 1) := by decide +kernel
theorem dL_law_148 : decode cL_law 148 = .ok (.aload_n 0, 1) := by decide +kernel
theorem dL_law_149 : decode cL_law 149 = .ok (.iload_n 3, 1) := by decide +kernel
theorem dL_law_150 : decode cL_law 150 = .ok (.iconst 3, 1) := by decide +kernel
theorem dL_law_151 : decode cL_law 151 = .ok (.iadd, 1) := by decide +kernel
theorem dL_law_152 : decode cL_law 152 = .ok (.iaload, 1) := by decide +kernel
theorem dL_law_153 : decode cL_law 153 = .ok (.invokevirtual 18, 3) := by decide +kernel
theorem dL_law_156 : decode cL_law 156 = .ok (.aload_n 2, 1) := by decide +kernel
theorem dL_law_157 : decode cL_law 157 = .ok (.aload_n 0, 1) := by decide +kernel
theorem dL_law_158 : decode cL_law 158 = .ok (.iload_n 3, 1) := by decide +kernel
theorem dL_law_159 : decode cL_law 159 = .ok (.iconst 1, 1) := by decide +kernel
theorem dL_law_160 : decode cL_law 160 = .ok (.iadd, 1) := by decide +kernel
theorem dL_law_161 : decode cL_law 161 = .ok (.iaload, 1) := by decide +kernel
theorem dL_law_162 : decode cL_law 162 = .ok (.aload_n 0, 1) := by decide +kernel
theorem dL_law_163 : decode cL_law 163 = .ok (.iload_n 3, 1) := by decide +kernel
theorem dL_law_164 : decode cL_law 164 = .ok (.iconst 2, 1) := by decide +kernel
theorem dL_law_165 : decode cL_law 165 = .ok (.iadd, 1) := by decide +kernel
theorem dL_law_166 : decode cL_law 166 = .ok (.iaload, 1) := by decide +kernel
theorem dL_law_167 : decode cL_law 167 = .ok (.aload_n 0, 1) := by decide +kernel
theorem dL_law_168 : decode cL_law 168 = .ok (.iload_n 3, 1) := by decide +kernel
theorem dL_law_169 : decode cL_law 169 = .ok (.iconst 3, 1) := by decide +kernel
theorem dL_law_170 : decode cL_law 170 = .ok (.iadd, 1) := by decide +kernel
theorem dL_law_171 : decode cL_law 171 = .ok (.iaload, 1) := by decide +kernel
theorem dL_law_172 : decode cL_law 172 = .ok (.invokevirtual 22, 3) := by decide +kernel
theorem dL_law_175 : decode cL_law 175 = .ok (.if_icmp .eq 496, 3) := by decide +kernel
theorem dL_law_178 : decode cL_law 178 = .ok (.iconst 0, 1) := by decide +kernel
theorem dL_law_179 : decode cL_law 179 = .ok (.ireturn, 1) := by decide +kernel
theorem dL_law_180 : decode cL_law 180 = .ok (.aload_n 1, 1) := by decide +kernel
theorem dL_law_181 : decode cL_law 181 = .ok (.aload_n 0, 1) := by decide +kernel
theorem dL_law_182 : decode cL_law 182 = .ok (.iload_n 3, 1) := by decide +kernel
theorem dL_law_183 : decode cL_law 183 = .ok (.iconst 1, 1) := by decide +kernel
theorem dL_law_184 : decode cL_law 184 = .ok (.iadd, 1) := by decide +kernel
theorem dL_law_185 : decode cL_law 185 = .ok (.iaload, 1) := by decide +kernel
theorem dL_law_186 : decode cL_law 186 = .ok (.aload_n 0, 1) := by decide +kernel
theorem dL_law_187 : decode cL_law 187 = .ok (.iload_n 3, 1) := by decide +kernel
theorem dL_law_188 : decode cL_law 188 = .ok (.iconst 2, 1) := by decide +kernel
theorem dL_law_189 : decode cL_law 189 = .ok (.iadd, 1) := by decide +kernel
theorem dL_law_190 : decode cL_law 190 = .ok (.iaload, 1) := by decide +kernel
theorem dL_law_191 : decode cL_law 191 = .ok (.aload_n 0, 1) := by decide +kernel
theorem dL_law_192 : decode cL_law 192 = .ok (.iload_n 3, 1) := by decide +kernel
theorem dL_law_193 : decode cL_law 193 = .ok (.iconst 3, 1) := by decide +kernel
theorem dL_law_194 : decode cL_law 194 = .ok (.iadd, 1) := by decide +kernel
theorem dL_law_195 : decode cL_law 195 = .ok (.iaload, 1) := by decide +kernel
theorem dL_law_196 : decode cL_law 196 = .ok (.aload_n 0, 1) := by decide +kernel
theorem dL_law_197 : decode cL_law 197 = .ok (.iload_n 3, 1) := by decide +kernel
theorem dL_law_198 : decode cL_law 198 = .ok (.iconst 4, 1) := by decide +kernel
theorem dL_law_199 : decode cL_law 199 = .ok (.iadd, 1) := by decide +kernel
theorem dL_law_200 : decode cL_law 200 = .ok (.iaload, 1) := by decide +kernel
theorem dL_law_201 : decode cL_law 201 = .ok (.invokevirtual 23, 3) := by decide +kernel
theorem dL_law_204 : decode cL_law 204 = .ok (.aload_n 2, 1) := by decide +kernel
theorem dL_law_205 : decode cL_law 205 = .ok (.aload_n 0, 1) := by decide +kernel
theorem dL_law_206 : decode cL_law 206 = .ok (.iload_n 3, 1) := by decide +kernel
theorem dL_law_207 : decode cL_law 207 = .ok (.iconst 1, 1) := by decide +kernel
theorem dL_law_208 : decode cL_law 208 = .ok (.iadd, 1) := by decide +kernel
theorem dL_law_209 : decode cL_law 209 = .ok (.iaload, 1) := by decide +kernel
theorem dL_law_210 : decode cL_law 210 = .ok (.aload_n 0, 1) := by decide +kernel
theorem dL_law_211 : decode cL_law 211 = .ok (.iload_n 3, 1) := by decide +kernel
theorem dL_law_212 : decode cL_law 212 = .ok (.iconst 2, 1) := by decide +kernel
theorem dL_law_213 : decode cL_law 213 = .ok (.iadd, 1) := by decide +kernel
theorem dL_law_214 : decode cL_law 214 = .ok (.iaload, 1) := by decide +kernel
theorem dL_law_215 : decode cL_law 215 = .ok (.aload_n 0, 1) := by decide +kernel
theorem dL_law_216 : decode cL_law 216 = .ok (.iload_n 3, 1) := by decide +kernel
theorem dL_law_217 : decode cL_law 217 = .ok (.iconst 3, 1) := by decide +kernel
theorem dL_law_218 : decode cL_law 218 = .ok (.iadd, 1) := by decide +kernel
theorem dL_law_219 : decode cL_law 219 = .ok (.iaload, 1) := by decide +kernel
theorem dL_law_220 : decode cL_law 220 = .ok (.aload_n 0, 1) := by decide +kernel
theorem dL_law_221 : decode cL_law 221 = .ok (.iload_n 3, 1) := by decide +kernel
theorem dL_law_222 : decode cL_law 222 = .ok (.iconst 4, 1) := by decide +kernel
theorem dL_law_223 : decode cL_law 223 = .ok (.iadd, 1) := by decide +kernel
theorem dL_law_224 : decode cL_law 224 = .ok (.iaload, 1) := by decide +kernel
theorem dL_law_225 : decode cL_law 225 = .ok (.invokevirtual 27, 3) := by decide +kernel
theorem dL_law_228 : decode cL_law 228 = .ok (.if_icmp .eq 443, 3) := by decide +kernel
theorem dL_law_231 : decode cL_law 231 = .ok (.iconst 0, 1) := by decide +kernel
theorem dL_law_232 : decode cL_law 232 = .ok (.ireturn, 1) := by decide +kernel
theorem dL_law_233 : decode cL_law 233 = .ok (.aload_n 1, 1) := by decide +kernel
theorem dL_law_234 : decode cL_law 234 = .ok (.aload_n 0, 1) := by decide +kernel
theorem dL_law_235 : decode cL_law 235 = .ok (.iload_n 3, 1) := by decide +kernel
theorem dL_law_236 : decode cL_law 236 = .ok (.iconst 1, 1) := by decide +kernel
theorem dL_law_237 : decode cL_law 237 = .ok (.iadd, 1) := by decide +kernel
theorem dL_law_238 : decode cL_law 238 = .ok (.iaload, 1) := by decide +kernel
theorem dL_law_239 : decode cL_law 239 = .ok (.aload_n 0, 1) := by decide +kernel
theorem dL_law_240 : decode cL_law 240 = .ok (.iload_n 3, 1) := by decide +kernel
theorem dL_law_241 : decode cL_law 241 = .ok (.iconst 2, 1) := by decide +kernel
theorem dL_law_242 : decode cL_law 242 = .ok (.iadd, 1) := by decide +kernel
theorem dL_law_243 : decode cL_law 243 = .ok (.iaload, 1) := by decide +kernel
theorem dL_law_244 : decode cL_law 244 = .ok (.invokevirtual 28, 3) := by decide +kernel
theorem dL_law_247 : decode cL_law 247 = .ok (.aload_n 2, 1) := by decide +kernel
theorem dL_law_248 : decode cL_law 248 = .ok (.aload_n 0, 1) := by decide +kernel
theorem dL_law_249 : decode cL_law 249 = .ok (.iload_n 3, 1) := by decide +kernel
theorem dL_law_250 : decode cL_law 250 = .ok (.iconst 1, 1) := by decide +kernel
theorem dL_law_251 : decode cL_law 251 = .ok (.iadd, 1) := by decide +kernel
theorem dL_law_252 : decode cL_law 252 = .ok (.iaload, 1) := by decide +kernel
theorem dL_law_253 : decode cL_law 253 = .ok (.aload_n 0, 1) := by decide +kernel
theorem dL_law_254 : decode cL_law 254 = .ok (.iload_n 3, 1) := by decide +kernel
theorem dL_law_255 : decode cL_law 255 = .ok (.iconst 2, 1) := by decide +kernel
theorem dL_law_256 : decode cL_law 256 = .ok (.iadd, 1) := by decide +kernel
theorem dL_law_257 : decode cL_law 257 = .ok (.iaload, 1) := by decide +kernel
theorem dL_law_258 : decode cL_law 258 = .ok (.invokevirtual 32, 3) := by decide +kernel
theorem dL_law_261 : decode cL_law 261 = .ok (.if_icmp .eq 410, 3) := by decide +kernel
theorem dL_law_264 : decode cL_law 264 = .ok (.iconst 0, 1) := by decide +kernel
theorem dL_law_265 : decode cL_law 265 = .ok (.ireturn, 1) := by decide +kernel
theorem dL_law_266 : decode cL_law 266 = .ok (.aload_n 1, 1) := by decide +kernel
theorem dL_law_267 : decode cL_law 267 = .ok (.aload_n 0, 1) := by decide +kernel
theorem dL_law_268 : decode cL_law 268 = .ok (.iload_n 3, 1) := by decide +kernel
theorem dL_law_269 : decode cL_law 269 = .ok (.iconst 1, 1) := by decide +kernel
theorem dL_law_270 : decode cL_law 270 = .ok (.iadd, 1) := by decide +kernel
theorem dL_law_271 : decode cL_law 271 = .ok (.iaload, 1) := by decide +kernel
theorem dL_law_272 : decode cL_law 272 = .ok (.aload_n 0, 1) := by decide +kernel
theorem dL_law_273 : decode cL_law 273 = .ok (.iload_n 3, 1) := by decide +kernel
theorem dL_law_274 : decode cL_law 274 = .ok (.iconst 2, 1) := by decide +kernel
theorem dL_law_275 : decode cL_law 275 = .ok (.iadd, 1) := by decide +kernel
theorem dL_law_276 : decode cL_law 276 = .ok (.iaload, 1) := by decide +kernel
theorem dL_law_277 : decode cL_law 277 = .ok (.invokevirtual 33, 3) := by decide +kernel
theorem dL_law_280 : decode cL_law 280 = .ok (.aload_n 2, 1) := by decide +kernel
theorem dL_law_281 : decode cL_law 281 = .ok (.aload_n 0, 1) := by decide +kernel
theorem dL_law_282 : decode cL_law 282 = .ok (.iload_n 3, 1) := by decide +kernel
theorem dL_law_283 : decode cL_law 283 = .ok (.iconst 1, 1) := by decide +kernel
theorem dL_law_284 : decode cL_law 284 = .ok (.iadd, 1) := by decide +kernel
theorem dL_law_285 : decode cL_law 285 = .ok (.iaload, 1) := by decide +kernel
theorem dL_law_286 : decode cL_law 286 = .ok (.aload_n 0, 1) := by decide +kernel
theorem dL_law_287 : decode cL_law 287 = .ok (.iload_n 3, 1) := by decide +kernel
theorem dL_law_288 : decode cL_law 288 = .ok (.iconst 2, 1) := by decide +kernel
theorem dL_law_289 : decode cL_law 289 = .ok (.iadd, 1) := by decide +kernel
theorem dL_law_290 : decode cL_law 290 = .ok (.iaload, 1) := by decide +kernel
theorem dL_law_291 : decode cL_law 291 = .ok (.invokevirtual 36, 3) := by decide +kernel
theorem dL_law_294 : decode cL_law 294 = .ok (.if_icmp .eq 377, 3) := by decide +kernel
theorem dL_law_297 : decode cL_law 297 = .ok (.iconst 0, 1) := by decide +kernel
theorem dL_law_298 : decode cL_law 298 = .ok (.ireturn, 1) := by decide +kernel
theorem dL_law_299 : decode cL_law 299 = .ok (.aload_n 1, 1) := by decide +kernel
theorem dL_law_300 : decode cL_law 300 = .ok (.aload_n 0, 1) := by decide +kernel
theorem dL_law_301 : decode cL_law 301 = .ok (.iload_n 3, 1) := by decide +kernel
theorem dL_law_302 : decode cL_law 302 = .ok (.iconst 1, 1) := by decide +kernel
theorem dL_law_303 : decode cL_law 303 = .ok (.iadd, 1) := by decide +kernel
theorem dL_law_304 : decode cL_law 304 = .ok (.iaload, 1) := by decide +kernel
theorem dL_law_305 : decode cL_law 305 = .ok (.invokevirtual 37, 3) := by decide +kernel
theorem dL_law_308 : decode cL_law 308 = .ok (.aload_n 2, 1) := by decide +kernel
theorem dL_law_309 : decode cL_law 309 = .ok (.aload_n 0, 1) := by decide +kernel
theorem dL_law_310 : decode cL_law 310 = .ok (.iload_n 3, 1) := by decide +kernel
theorem dL_law_311 : decode cL_law 311 = .ok (.iconst 1, 1) := by decide +kernel
theorem dL_law_312 : decode cL_law 312 = .ok (.iadd, 1) := by decide +kernel
theorem dL_law_313 : decode cL_law 313 = .ok (.iaload, 1) := by decide +kernel
theorem dL_law_314 : decode cL_law 314 = .ok (.invokevirtual 41, 3) := by decide +kernel
theorem dL_law_317 : decode cL_law 317 = .ok (.if_icmp .eq 354, 3) := by decide +kernel
theorem dL_law_320 : decode cL_law 320 = .ok (.iconst 0, 1) := by decide +kernel
theorem dL_law_321 : decode cL_law 321 = .ok (.ireturn, 1) := by decide +kernel
theorem dL_law_322 : decode cL_law 322 = .ok (.aload_n 1, 1) := by decide +kernel
theorem dL_law_323 : decode cL_law 323 = .ok (.aload_n 0, 1) := by decide +kernel
theorem dL_law_324 : decode cL_law 324 = .ok (.iload_n 3, 1) := by decide +kernel
theorem dL_law_325 : decode cL_law 325 = .ok (.iconst 1, 1) := by decide +kernel
theorem dL_law_326 : decode cL_law 326 = .ok (.iadd, 1) := by decide +kernel
theorem dL_law_327 : decode cL_law 327 = .ok (.iaload, 1) := by decide +kernel
theorem dL_law_328 : decode cL_law 328 = .ok (.invokevirtual 42, 3) := by decide +kernel
theorem dL_law_331 : decode cL_law 331 = .ok (.aload_n 2, 1) := by decide +kernel
theorem dL_law_332 : decode cL_law 332 = .ok (.aload_n 0, 1) := by decide +kernel
theorem dL_law_333 : decode cL_law 333 = .ok (.iload_n 3, 1) := by decide +kernel
theorem dL_law_334 : decode cL_law 334 = .ok (.iconst 1, 1) := by decide +kernel
theorem dL_law_335 : decode cL_law 335 = .ok (.iadd, 1) := by decide +kernel
theorem dL_law_336 : decode cL_law 336 = .ok (.iaload, 1) := by decide +kernel
theorem dL_law_337 : decode cL_law 337 = .ok (.invokevirtual 45, 3) := by decide +kernel
theorem dL_law_340 : decode cL_law 340 = .ok (.if_icmp .eq 331, 3) := by decide +kernel
theorem dL_law_343 : decode cL_law 343 = .ok (.iconst 0, 1) := by decide +kernel
theorem dL_law_344 : decode cL_law 344 = .ok (.ireturn, 1) := by decide +kernel
theorem dL_law_345 : decode cL_law 345 = .ok (.aload_n 1, 1) := by decide +kernel
theorem dL_law_346 : decode cL_law 346 = .ok (.aload_n 0, 1) := by decide +kernel
theorem dL_law_347 : decode cL_law 347 = .ok (.iload_n 3, 1) := by decide +kernel
theorem dL_law_348 : decode cL_law 348 = .ok (.iconst 1, 1) := by decide +kernel
theorem dL_law_349 : decode cL_law 349 = .ok (.iadd, 1) := by decide +kernel
theorem dL_law_350 : decode cL_law 350 = .ok (.iaload, 1) := by decide +kernel
theorem dL_law_351 : decode cL_law 351 = .ok (.invokevirtual 46, 3) := by decide +kernel
theorem dL_law_354 : decode cL_law 354 = .ok (.aload_n 2, 1) := by decide +kernel
theorem dL_law_355 : decode cL_law 355 = .ok (.aload_n 0, 1) := by decide +kernel
theorem dL_law_356 : decode cL_law 356 = .ok (.iload_n 3, 1) := by decide +kernel
theorem dL_law_357 : decode cL_law 357 = .ok (.iconst 1, 1) := by decide +kernel
theorem dL_law_358 : decode cL_law 358 = .ok (.iadd, 1) := by decide +kernel
theorem dL_law_359 : decode cL_law 359 = .ok (.iaload, 1) := by decide +kernel
theorem dL_law_360 : decode cL_law 360 = .ok (.invokevirtual 49, 3) := by decide +kernel
theorem dL_law_363 : decode cL_law 363 = .ok (.if_icmp .eq 308, 3) := by decide +kernel
theorem dL_law_366 : decode cL_law 366 = .ok (.iconst 0, 1) := by decide +kernel
theorem dL_law_367 : decode cL_law 367 = .ok (.ireturn, 1) := by decide +kernel
theorem dL_law_368 : decode cL_law 368 = .ok (.aload_n 1, 1) := by decide +kernel
theorem dL_law_369 : decode cL_law 369 = .ok (.aload_n 0, 1) := by decide +kernel
theorem dL_law_370 : decode cL_law 370 = .ok (.iload_n 3, 1) := by decide +kernel
theorem dL_law_371 : decode cL_law 371 = .ok (.iconst 1, 1) := by decide +kernel
theorem dL_law_372 : decode cL_law 372 = .ok (.iadd, 1) := by decide +kernel
theorem dL_law_373 : decode cL_law 373 = .ok (.iaload, 1) := by decide +kernel
theorem dL_law_374 : decode cL_law 374 = .ok (.invokevirtual 50, 3) := by decide +kernel
theorem dL_law_377 : decode cL_law 377 = .ok (.aload_n 2, 1) := by decide +kernel
theorem dL_law_378 : decode cL_law 378 = .ok (.aload_n 0, 1) := by decide +kernel
theorem dL_law_379 : decode cL_law 379 = .ok (.iload_n 3, 1) := by decide +kernel
theorem dL_law_380 : decode cL_law 380 = .ok (.iconst 1, 1) := by decide +kernel
theorem dL_law_381 : decode cL_law 381 = .ok (.iadd, 1) := by decide +kernel
theorem dL_law_382 : decode cL_law 382 = .ok (.iaload, 1) := by decide +kernel
theorem dL_law_383 : decode cL_law 383 = .ok (.invokevirtual 53, 3) := by decide +kernel
theorem dL_law_386 : decode cL_law 386 = .ok (.if_icmp .eq 285, 3) := by decide +kernel
theorem dL_law_389 : decode cL_law 389 = .ok (.iconst 0, 1) := by decide +kernel
theorem dL_law_390 : decode cL_law 390 = .ok (.ireturn, 1) := by decide +kernel
theorem dL_law_391 : decode cL_law 391 = .ok (.aload_n 1, 1) := by decide +kernel
theorem dL_law_392 : decode cL_law 392 = .ok (.aload_n 0, 1) := by decide +kernel
theorem dL_law_393 : decode cL_law 393 = .ok (.iload_n 3, 1) := by decide +kernel
theorem dL_law_394 : decode cL_law 394 = .ok (.iconst 1, 1) := by decide +kernel
theorem dL_law_395 : decode cL_law 395 = .ok (.iadd, 1) := by decide +kernel
theorem dL_law_396 : decode cL_law 396 = .ok (.iaload, 1) := by decide +kernel
theorem dL_law_397 : decode cL_law 397 = .ok (.aload_n 0, 1) := by decide +kernel
theorem dL_law_398 : decode cL_law 398 = .ok (.iload_n 3, 1) := by decide +kernel
theorem dL_law_399 : decode cL_law 399 = .ok (.iconst 2, 1) := by decide +kernel
theorem dL_law_400 : decode cL_law 400 = .ok (.iadd, 1) := by decide +kernel
theorem dL_law_401 : decode cL_law 401 = .ok (.iaload, 1) := by decide +kernel
theorem dL_law_402 : decode cL_law 402 = .ok (.invokevirtual 54, 3) := by decide +kernel
theorem dL_law_405 : decode cL_law 405 = .ok (.aload_n 2, 1) := by decide +kernel
theorem dL_law_406 : decode cL_law 406 = .ok (.aload_n 0, 1) := by decide +kernel
theorem dL_law_407 : decode cL_law 407 = .ok (.iload_n 3, 1) := by decide +kernel
theorem dL_law_408 : decode cL_law 408 = .ok (.iconst 1, 1) := by decide +kernel
theorem dL_law_409 : decode cL_law 409 = .ok (.iadd, 1) := by decide +kernel
theorem dL_law_410 : decode cL_law 410 = .ok (.iaload, 1) := by decide +kernel
theorem dL_law_411 : decode cL_law 411 = .ok (.aload_n 0, 1) := by decide +kernel
theorem dL_law_412 : decode cL_law 412 = .ok (.iload_n 3, 1) := by decide +kernel
theorem dL_law_413 : decode cL_law 413 = .ok (.iconst 2, 1) := by decide +kernel
theorem dL_law_414 : decode cL_law 414 = .ok (.iadd, 1) := by decide +kernel
theorem dL_law_415 : decode cL_law 415 = .ok (.iaload, 1) := by decide +kernel
theorem dL_law_416 : decode cL_law 416 = .ok (.invokevirtual 57, 3) := by decide +kernel
theorem dL_law_419 : decode cL_law 419 = .ok (.if_icmp .eq 252, 3) := by decide +kernel
theorem dL_law_422 : decode cL_law 422 = .ok (.iconst 0, 1) := by decide +kernel
theorem dL_law_423 : decode cL_law 423 = .ok (.ireturn, 1) := by decide +kernel
theorem dL_law_424 : decode cL_law 424 = .ok (.aload_n 1, 1) := by decide +kernel
theorem dL_law_425 : decode cL_law 425 = .ok (.aload_n 0, 1) := by decide +kernel
theorem dL_law_426 : decode cL_law 426 = .ok (.iload_n 3, 1) := by decide +kernel
theorem dL_law_427 : decode cL_law 427 = .ok (.iconst 1, 1) := by decide +kernel
theorem dL_law_428 : decode cL_law 428 = .ok (.iadd, 1) := by decide +kernel
theorem dL_law_429 : decode cL_law 429 = .ok (.iaload, 1) := by decide +kernel
theorem dL_law_430 : decode cL_law 430 = .ok (.invokevirtual 58, 3) := by decide +kernel
theorem dL_law_433 : decode cL_law 433 = .ok (.aload_n 2, 1) := by decide +kernel
theorem dL_law_434 : decode cL_law 434 = .ok (.aload_n 0, 1) := by decide +kernel
theorem dL_law_435 : decode cL_law 435 = .ok (.iload_n 3, 1) := by decide +kernel
theorem dL_law_436 : decode cL_law 436 = .ok (.iconst 1, 1) := by decide +kernel
theorem dL_law_437 : decode cL_law 437 = .ok (.iadd, 1) := by decide +kernel
theorem dL_law_438 : decode cL_law 438 = .ok (.iaload, 1) := by decide +kernel
theorem dL_law_439 : decode cL_law 439 = .ok (.invokevirtual 61, 3) := by decide +kernel
theorem dL_law_442 : decode cL_law 442 = .ok (.if_icmp .eq 229, 3) := by decide +kernel
theorem dL_law_445 : decode cL_law 445 = .ok (.iconst 0, 1) := by decide +kernel
theorem dL_law_446 : decode cL_law 446 = .ok (.ireturn, 1) := by decide +kernel
theorem dL_law_447 : decode cL_law 447 = .ok (.aload_n 1, 1) := by decide +kernel
theorem dL_law_448 : decode cL_law 448 = .ok (.aload_n 0, 1) := by decide +kernel
theorem dL_law_449 : decode cL_law 449 = .ok (.iload_n 3, 1) := by decide +kernel
theorem dL_law_450 : decode cL_law 450 = .ok (.iconst 1, 1) := by decide +kernel
theorem dL_law_451 : decode cL_law 451 = .ok (.iadd, 1) := by decide +kernel
theorem dL_law_452 : decode cL_law 452 = .ok (.iaload, 1) := by decide +kernel
theorem dL_law_453 : decode cL_law 453 = .ok (.invokevirtual 62, 3) := by decide +kernel
theorem dL_law_456 : decode cL_law 456 = .ok (.aload_n 2, 1) := by decide +kernel
theorem dL_law_457 : decode cL_law 457 = .ok (.aload_n 0, 1) := by decide +kernel
theorem dL_law_458 : decode cL_law 458 = .ok (.iload_n 3, 1) := by decide +kernel
theorem dL_law_459 : decode cL_law 459 = .ok (.iconst 1, 1) := by decide +kernel
theorem dL_law_460 : decode cL_law 460 = .ok (.iadd, 1) := by decide +kernel
theorem dL_law_461 : decode cL_law 461 = .ok (.iaload, 1) := by decide +kernel
theorem dL_law_462 : decode cL_law 462 = .ok (.invokevirtual 65, 3) := by decide +kernel
theorem dL_law_465 : decode cL_law 465 = .ok (.if_icmp .eq 206, 3) := by decide +kernel
theorem dL_law_468 : decode cL_law 468 = .ok (.iconst 0, 1) := by decide +kernel
theorem dL_law_469 : decode cL_law 469 = .ok (.ireturn, 1) := by decide +kernel
theorem dL_law_470 : decode cL_law 470 = .ok (.aload_n 1, 1) := by decide +kernel
theorem dL_law_471 : decode cL_law 471 = .ok (.invokevirtual 66, 3) := by decide +kernel
theorem dL_law_474 : decode cL_law 474 = .ok (.aload_n 2, 1) := by decide +kernel
theorem dL_law_475 : decode cL_law 475 = .ok (.invokevirtual 69, 3) := by decide +kernel
theorem dL_law_478 : decode cL_law 478 = .ok (.if_icmp .eq 193, 3) := by decide +kernel
theorem dL_law_481 : decode cL_law 481 = .ok (.iconst 0, 1) := by decide +kernel
theorem dL_law_482 : decode cL_law 482 = .ok (.ireturn, 1) := by decide +kernel
theorem dL_law_483 : decode cL_law 483 = .ok (.aload_n 1, 1) := by decide +kernel
theorem dL_law_484 : decode cL_law 484 = .ok (.aload_n 0, 1) := by decide +kernel
theorem dL_law_485 : decode cL_law 485 = .ok (.iload_n 3, 1) := by decide +kernel
theorem dL_law_486 : decode cL_law 486 = .ok (.iconst 1, 1) := by decide +kernel
theorem dL_law_487 : decode cL_law 487 = .ok (.iadd, 1) := by decide +kernel
theorem dL_law_488 : decode cL_law 488 = .ok (.iaload, 1) := by decide +kernel
theorem dL_law_489 : decode cL_law 489 = .ok (.invokevirtual 70, 3) := by decide +kernel
theorem dL_law_492 : decode cL_law 492 = .ok (.aload_n 2, 1) := by decide +kernel
theorem dL_law_493 : decode cL_law 493 = .ok (.aload_n 0, 1) := by decide +kernel
theorem dL_law_494 : decode cL_law 494 = .ok (.iload_n 3, 1) := by decide +kernel
theorem dL_law_495 : decode cL_law 495 = .ok (.iconst 1, 1) := by decide +kernel
theorem dL_law_496 : decode cL_law 496 = .ok (.iadd, 1) := by decide +kernel
theorem dL_law_497 : decode cL_law 497 = .ok (.iaload, 1) := by decide +kernel
theorem dL_law_498 : decode cL_law 498 = .ok (.invokevirtual 73, 3) := by decide +kernel
theorem dL_law_501 : decode cL_law 501 = .ok (.if_icmp .eq 170, 3) := by decide +kernel
theorem dL_law_504 : decode cL_law 504 = .ok (.iconst 0, 1) := by decide +kernel
theorem dL_law_505 : decode cL_law 505 = .ok (.ireturn, 1) := by decide +kernel
theorem dL_law_506 : decode cL_law 506 = .ok (.aload_n 1, 1) := by decide +kernel
theorem dL_law_507 : decode cL_law 507 = .ok (.aload_n 0, 1) := by decide +kernel
theorem dL_law_508 : decode cL_law 508 = .ok (.iload_n 3, 1) := by decide +kernel
theorem dL_law_509 : decode cL_law 509 = .ok (.iconst 1, 1) := by decide +kernel
theorem dL_law_510 : decode cL_law 510 = .ok (.iadd, 1) := by decide +kernel
theorem dL_law_511 : decode cL_law 511 = .ok (.iaload, 1) := by decide +kernel
theorem dL_law_512 : decode cL_law 512 = .ok (.aload_n 0, 1) := by decide +kernel
theorem dL_law_513 : decode cL_law 513 = .ok (.iload_n 3, 1) := by decide +kernel
theorem dL_law_514 : decode cL_law 514 = .ok (.iconst 2, 1) := by decide +kernel
theorem dL_law_515 : decode cL_law 515 = .ok (.iadd, 1) := by decide +kernel
theorem dL_law_516 : decode cL_law 516 = .ok (.iaload, 1) := by decide +kernel
theorem dL_law_517 : decode cL_law 517 = .ok (.aload_n 0, 1) := by decide +kernel
theorem dL_law_518 : decode cL_law 518 = .ok (.iload_n 3, 1) := by decide +kernel
theorem dL_law_519 : decode cL_law 519 = .ok (.iconst 3, 1) := by decide +kernel
theorem dL_law_520 : decode cL_law 520 = .ok (.iadd, 1) := by decide +kernel
theorem dL_law_521 : decode cL_law 521 = .ok (.iaload, 1) := by decide +kernel
theorem dL_law_522 : decode cL_law 522 = .ok (.invokevirtual 74, 3) := by decide +kernel
theorem dL_law_525 : decode cL_law 525 = .ok (.aload_n 2, 1) := by decide +kernel
theorem dL_law_526 : decode cL_law 526 = .ok (.aload_n 0, 1) := by decide +kernel
theorem dL_law_527 : decode cL_law 527 = .ok (.iload_n 3, 1) := by decide +kernel
theorem dL_law_528 : decode cL_law 528 = .ok (.iconst 1, 1) := by decide +kernel
theorem dL_law_529 : decode cL_law 529 = .ok (.iadd, 1) := by decide +kernel
theorem dL_law_530 : decode cL_law 530 = .ok (.iaload, 1) := by decide +kernel
theorem dL_law_531 : decode cL_law 531 = .ok (.aload_n 0, 1) := by decide +kernel
theorem dL_law_532 : decode cL_law 532 = .ok (.iload_n 3, 1) := by decide +kernel
theorem dL_law_533 : decode cL_law 533 = .ok (.iconst 2, 1) := by decide +kernel
theorem dL_law_534 : decode cL_law 534 = .ok (.iadd, 1) := by decide +kernel
theorem dL_law_535 : decode cL_law 535 = .ok (.iaload, 1) := by decide +kernel
theorem dL_law_536 : decode cL_law 536 = .ok (.aload_n 0, 1) := by decide +kernel
theorem dL_law_537 : decode cL_law 537 = .ok (.iload_n 3, 1) := by decide +kernel
theorem dL_law_538 : decode cL_law 538 = .ok (.iconst 3, 1) := by decide +kernel
theorem dL_law_539 : decode cL_law 539 = .ok (.iadd, 1) := by decide +kernel
theorem dL_law_540 : decode cL_law 540 = .ok (.iaload, 1) := by decide +kernel
theorem dL_law_541 : decode cL_law 541 = .ok (.invokevirtual 77, 3) := by decide +kernel
theorem dL_law_544 : decode cL_law 544 = .ok (.if_icmp .eq 127, 3) := by decide +kernel
theorem dL_law_547 : decode cL_law 547 = .ok (.iconst 0, 1) := by decide +kernel
theorem dL_law_548 : decode cL_law 548 = .ok (.ireturn, 1) := by decide +kernel
theorem dL_law_549 : decode cL_law 549 = .ok (.aload_n 1, 1) := by decide +kernel
theorem dL_law_550 : decode cL_law 550 = .ok (.aload_n 0, 1) := by decide +kernel
theorem dL_law_551 : decode cL_law 551 = .ok (.iload_n 3, 1) := by decide +kernel
theorem dL_law_552 : decode cL_law 552 = .ok (.iconst 1, 1) := by decide +kernel
theorem dL_law_553 : decode cL_law 553 = .ok (.iadd, 1) := by decide +kernel
theorem dL_law_554 : decode cL_law 554 = .ok (.iaload, 1) := by decide +kernel
theorem dL_law_555 : decode cL_law 555 = .ok (.invokevirtual 78, 3) := by decide +kernel
theorem dL_law_558 : decode cL_law 558 = .ok (.aload_n 2, 1) := by decide +kernel
theorem dL_law_559 : decode cL_law 559 = .ok (.aload_n 0, 1) := by decide +kernel
theorem dL_law_560 : decode cL_law 560 = .ok (.iload_n 3, 1) := by decide +kernel
theorem dL_law_561 : decode cL_law 561 = .ok (.iconst 1, 1) := by decide +kernel
theorem dL_law_562 : decode cL_law 562 = .ok (.iadd, 1) := by decide +kernel
theorem dL_law_563 : decode cL_law 563 = .ok (.iaload, 1) := by decide +kernel
theorem dL_law_564 : decode cL_law 564 = .ok (.invokevirtual 81, 3) := by decide +kernel
theorem dL_law_567 : decode cL_law 567 = .ok (.if_icmp .eq 104, 3) := by decide +kernel
theorem dL_law_570 : decode cL_law 570 = .ok (.iconst 0, 1) := by decide +kernel
theorem dL_law_571 : decode cL_law 571 = .ok (.ireturn, 1) := by decide +kernel
theorem dL_law_572 : decode cL_law 572 = .ok (.aload_n 1, 1) := by decide +kernel
theorem dL_law_573 : decode cL_law 573 = .ok (.aload_n 0, 1) := by decide +kernel
theorem dL_law_574 : decode cL_law 574 = .ok (.iload_n 3, 1) := by decide +kernel
theorem dL_law_575 : decode cL_law 575 = .ok (.iconst 1, 1) := by decide +kernel
theorem dL_law_576 : decode cL_law 576 = .ok (.iadd, 1) := by decide +kernel
theorem dL_law_577 : decode cL_law 577 = .ok (.iaload, 1) := by decide +kernel
theorem dL_law_578 : decode cL_law 578 = .ok (.aload_n 0, 1) := by decide +kernel
theorem dL_law_579 : decode cL_law 579 = .ok (.iload_n 3, 1) := by decide +kernel
theorem dL_law_580 : decode cL_law 580 = .ok (.iconst 2, 1) := by decide +kernel
theorem dL_law_581 : decode cL_law 581 = .ok (.iadd, 1) := by decide +kernel
theorem dL_law_582 : decode cL_law 582 = .ok (.iaload, 1) := by decide +kernel
theorem dL_law_583 : decode cL_law 583 = .ok (.aload_n 0, 1) := by decide +kernel
theorem dL_law_584 : decode cL_law 584 = .ok (.iload_n 3, 1) := by decide +kernel
theorem dL_law_585 : decode cL_law 585 = .ok (.iconst 3, 1) := by decide +kernel
theorem dL_law_586 : decode cL_law 586 = .ok (.iadd, 1) := by decide +kernel
theorem dL_law_587 : decode cL_law 587 = .ok (.iaload, 1) := by decide +kernel
theorem dL_law_588 : decode cL_law 588 = .ok (.invokevirtual 82, 3) := by decide +kernel
theorem dL_law_591 : decode cL_law 591 = .ok (.aload_n 2, 1) := by decide +kernel
theorem dL_law_592 : decode cL_law 592 = .ok (.aload_n 0, 1) := by decide +kernel
theorem dL_law_593 : decode cL_law 593 = .ok (.iload_n 3, 1) := by decide +kernel
theorem dL_law_594 : decode cL_law 594 = .ok (.iconst 1, 1) := by decide +kernel
theorem dL_law_595 : decode cL_law 595 = .ok (.iadd, 1) := by decide +kernel
theorem dL_law_596 : decode cL_law 596 = .ok (.iaload, 1) := by decide +kernel
theorem dL_law_597 : decode cL_law 597 = .ok (.aload_n 0, 1) := by decide +kernel
theorem dL_law_598 : decode cL_law 598 = .ok (.iload_n 3, 1) := by decide +kernel
theorem dL_law_599 : decode cL_law 599 = .ok (.iconst 2, 1) := by decide +kernel
theorem dL_law_600 : decode cL_law 600 = .ok (.iadd, 1) := by decide +kernel
theorem dL_law_601 : decode cL_law 601 = .ok (.iaload, 1) := by decide +kernel
theorem dL_law_602 : decode cL_law 602 = .ok (.aload_n 0, 1) := by decide +kernel
theorem dL_law_603 : decode cL_law 603 = .ok (.iload_n 3, 1) := by decide +kernel
theorem dL_law_604 : decode cL_law 604 = .ok (.iconst 3, 1) := by decide +kernel
theorem dL_law_605 : decode cL_law 605 = .ok (.iadd, 1) := by decide +kernel
theorem dL_law_606 : decode cL_law 606 = .ok (.iaload, 1) := by decide +kernel
theorem dL_law_607 : decode cL_law 607 = .ok (.invokevirtual 85, 3) := by decide +kernel
theorem dL_law_610 : decode cL_law 610 = .ok (.if_icmp .eq 61, 3) := by decide +kernel
theorem dL_law_613 : decode cL_law 613 = .ok (.iconst 0, 1) := by decide +kernel
theorem dL_law_614 : decode cL_law 614 = .ok (.ireturn, 1) := by decide +kernel
theorem dL_law_615 : decode cL_law 615 = .ok (.aload_n 1, 1) := by decide +kernel
theorem dL_law_616 : decode cL_law 616 = .ok (.aload_n 0, 1) := by decide +kernel
theorem dL_law_617 : decode cL_law 617 = .ok (.iload_n 3, 1) := by decide +kernel
theorem dL_law_618 : decode cL_law 618 = .ok (.iconst 1, 1) := by decide +kernel
theorem dL_law_619 : decode cL_law 619 = .ok (.iadd, 1) := by decide +kernel
theorem dL_law_620 : decode cL_law 620 = .ok (.iaload, 1) := by decide +kernel
theorem dL_law_621 : decode cL_law 621 = .ok (.aload_n 0, 1) := by decide +kernel
theorem dL_law_622 : decode cL_law 622 = .ok (.iload_n 3, 1) := by decide +kernel
theorem dL_law_623 : decode cL_law 623 = .ok (.iconst 2, 1) := by decide +kernel
theorem dL_law_624 : decode cL_law 624 = .ok (.iadd, 1) := by decide +kernel
theorem dL_law_625 : decode cL_law 625 = .ok (.iaload, 1) := by decide +kernel
theorem dL_law_626 : decode cL_law 626 = .ok (.invokevirtual 86, 3) := by decide +kernel
theorem dL_law_629 : decode cL_law 629 = .ok (.aload_n 2, 1) := by decide +kernel
theorem dL_law_630 : decode cL_law 630 = .ok (.aload_n 0, 1) := by decide +kernel
theorem dL_law_631 : decode cL_law 631 = .ok (.iload_n 3, 1) := by decide +kernel
theorem dL_law_632 : decode cL_law 632 = .ok (.iconst 1, 1) := by decide +kernel
theorem dL_law_633 : decode cL_law 633 = .ok (.iadd, 1) := by decide +kernel
theorem dL_law_634 : decode cL_law 634 = .ok (.iaload, 1) := by decide +kernel
theorem dL_law_635 : decode cL_law 635 = .ok (.aload_n 0, 1) := by decide +kernel
theorem dL_law_636 : decode cL_law 636 = .ok (.iload_n 3, 1) := by decide +kernel
theorem dL_law_637 : decode cL_law 637 = .ok (.iconst 2, 1) := by decide +kernel
theorem dL_law_638 : decode cL_law 638 = .ok (.iadd, 1) := by decide +kernel
theorem dL_law_639 : decode cL_law 639 = .ok (.iaload, 1) := by decide +kernel
theorem dL_law_640 : decode cL_law 640 = .ok (.invokevirtual 89, 3) := by decide +kernel
theorem dL_law_643 : decode cL_law 643 = .ok (.if_icmp .eq 28, 3) := by decide +kernel
theorem dL_law_646 : decode cL_law 646 = .ok (.iconst 0, 1) := by decide +kernel
theorem dL_law_647 : decode cL_law 647 = .ok (.ireturn, 1) := by decide +kernel
theorem dL_law_648 : decode cL_law 648 = .ok (.aload_n 1, 1) := by decide +kernel
theorem dL_law_649 : decode cL_law 649 = .ok (.aload_n 0, 1) := by decide +kernel
theorem dL_law_650 : decode cL_law 650 = .ok (.iload_n 3, 1) := by decide +kernel
theorem dL_law_651 : decode cL_law 651 = .ok (.iconst 1, 1) := by decide +kernel
theorem dL_law_652 : decode cL_law 652 = .ok (.iadd, 1) := by decide +kernel
theorem dL_law_653 : decode cL_law 653 = .ok (.iaload, 1) := by decide +kernel
theorem dL_law_654 : decode cL_law 654 = .ok (.invokevirtual 90, 3) := by decide +kernel
theorem dL_law_657 : decode cL_law 657 = .ok (.aload_n 2, 1) := by decide +kernel
theorem dL_law_658 : decode cL_law 658 = .ok (.aload_n 0, 1) := by decide +kernel
theorem dL_law_659 : decode cL_law 659 = .ok (.iload_n 3, 1) := by decide +kernel
theorem dL_law_660 : decode cL_law 660 = .ok (.iconst 1, 1) := by decide +kernel
theorem dL_law_661 : decode cL_law 661 = .ok (.iadd, 1) := by decide +kernel
theorem dL_law_662 : decode cL_law 662 = .ok (.iaload, 1) := by decide +kernel
theorem dL_law_663 : decode cL_law 663 = .ok (.invokevirtual 93, 3) := by decide +kernel
theorem dL_law_666 : decode cL_law 666 = .ok (.if_icmp .eq 5, 3) := by decide +kernel
theorem dL_law_669 : decode cL_law 669 = .ok (.iconst 0, 1) := by decide +kernel
theorem dL_law_670 : decode cL_law 670 = .ok (.ireturn, 1) := by decide +kernel
theorem dL_law_671 : decode cL_law 671 = .ok (.iinc 3 5, 3) := by decide +kernel
theorem dL_law_674 : decode cL_law 674 = .ok (.goto (-656), 3) := by decide +kernel
theorem dL_law_677 : decode cL_law 677 = .ok (.iconst 1, 1) := by decide +kernel
theorem dL_law_678 : decode cL_law 678 = .ok (.ireturn, 1) := by decide +kernel
abbrev vwCl : List vw_C := [(RX0, TX0, 3), (RX1, TX1, 5), (RX2, TX2, 3), (RX3, TX3, 3), (RX4, TX4, 3), (RX5, TX5, 4), (RX6, TX6, 7), (RX7, TX7, 7), (RX8, TX8, 10)]
end
section
/-! THE CLAIM OUT OF ONE WALK OF THE LAW'S BODY. Your part is whole_start (and what it stands on); all else here is the same for every law, but numbers. -/
def R_law : String := "VoiceRowsLaw"
def lw_P (b : Addr) (xs : List Int32) (args : Array Value) (s : State) : Prop := args = #[.ref b] ∧ s.IntsAt b xs ∧ xs.length ≤ 2560 ∧ (Jvm.Cond.and given_1 narrow_1).before args s = true
def lw_Q (_ : Array Value) (s : State) (o : Outcome) (t : State) : Prop := o = .returned (some (.int 1)) ∧ Framed s o t [] 600000 7302250
def lw_Z (below : List Frame) (a : Array Value) (s : State) : State → Prop := fun t => ∃ o, t.status = .running ∧ Ended t below o ∧ lw_Q a s o t
/-- the law's own end, with 1 on the stack, nothing written that was there before, its room as the claim has it -/
theorem lw_ret {p : Program} {l : Launch} {e : Env} {s : State} {m : MethodId} {below : List Frame} {meth : Method} {c : Code} {b : Nat} (hx : p.tables.exec = Jvm.exec) (hb : c.code = code) (hr : meth.sig.returnType = ret) (hlocks : meth.locks = false) {pc : Nat} {H : Heap} {ls : Array Slot} (hdg : decode code pc = .ok (.ireturn, 1)) : W p l e room_1 s m #[Value.ref b] below meth c H [] 600000 7302250 (lw_Z below #[Value.ref b] s) (F0 m pc ls [.int 1]) := by
  intro T hT X
  obtain ⟨fs, hret, hrun, hended, hW, hframe⟩ := X.leave (v := some (.int 1)) (hlocks := hlocks) (fun h => by rw [hr] at h; cases h)
  have hmeth' : T.vm.method? m = some meth := X.method'
  refine ⟨T.setFrames fs, ?_, .returned (some (.int 1)), hrun, hended, rfl, ⟨_, rfl⟩, hW, hframe⟩
  jvm_step X.here [X.here.top, hx, hb, hdg, hmeth', hr, ret, narrow_b1]
  (try refine ⟨rfl, ?_⟩); (try refine ⟨rfl, ?_⟩)
  first | (intro acts; rw [hret _ acts rfl rfl rfl]) | rw [hret _ _ rfl rfl rfl]
  exact Steps.refl _
/-- what holds at the law's entry: the machine, the code, the tables' words (any of lw_tbl by 'hts w (by decide +kernel)'), the script of L ints xs at the cell b, what the Statement gives of the start (any of its parts by flat_of_before) -/
def lw_At (p : Program) (s : State) (m : MethodId) (meth : Method) (c : Code) (b L : Nat) (xs : Nat → Int32) : Prop :=
  p.tables.exec = Jvm.exec ∧ c.code = code ∧ meth.sig.returnType = ret ∧ c.maxLocals = 4 ∧ s.vm.findClass R_law = some m.cls ∧ (∀ w ∈ lw_tbl, w.before #[Value.ref b] s = true) ∧ va_X b L xs s s.heap ∧ b < s.heap.size ∧ meth.locks = false ∧ (Jvm.Cond.and given_1 narrow_1).before #[Value.ref b] s = true
end
