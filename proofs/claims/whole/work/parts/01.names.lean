-- ===== PART A: goes FIRST, ahead of the names: the tables' words, and 'selects' of the private methods out of them =====
/-- a private method of a class that the tables say can be made, by its rows of tables_1 -/
def lw_okq (q : MethodName × Nat) : Prop := (q.1.cls ≠ "java/lang/invoke/MethodHandle" ∧ q.1.cls ≠ "java/lang/invoke/VarHandle") ∧ Cond.instantiable q.1.cls q.2 ∈ tables_1 ∧ Cond.privateMethod q.1 ∈ tables_1 ∧ Cond.instanceMethod q.1 ∈ tables_1
theorem lw_p0 : lw_okq (⟨"BowSpeeches$Pad", "characterAt", "(I)C"⟩, 2) := ⟨⟨by decide +kernel, by decide +kernel⟩, List.mem_of_getElem? (i := 58) (by decide +kernel), List.mem_of_getElem? (i := 215) (by decide +kernel), List.mem_of_getElem? (i := 216) (by decide +kernel)⟩
theorem lw_p1 : lw_okq (⟨"BowSpeeches", "canBeGiven", "()Z"⟩, 7) := ⟨⟨by decide +kernel, by decide +kernel⟩, List.mem_of_getElem? (i := 9) (by decide +kernel), List.mem_of_getElem? (i := 243) (by decide +kernel), List.mem_of_getElem? (i := 244) (by decide +kernel)⟩
theorem lw_p2 : lw_okq (⟨"BowSpeeches$Seen", "findGroups", "(LBowSpeeches$Court;I)V"⟩, 8) := ⟨⟨by decide +kernel, by decide +kernel⟩, List.mem_of_getElem? (i := 92) (by decide +kernel), List.mem_of_getElem? (i := 251) (by decide +kernel), List.mem_of_getElem? (i := 252) (by decide +kernel)⟩
theorem lw_p3 : lw_okq (⟨"BowSpeeches$Seen", "addGroup", "(I)V"⟩, 8) := ⟨⟨by decide +kernel, by decide +kernel⟩, List.mem_of_getElem? (i := 92) (by decide +kernel), List.mem_of_getElem? (i := 268) (by decide +kernel), List.mem_of_getElem? (i := 269) (by decide +kernel)⟩
theorem lw_p4 : lw_okq (⟨"BowSpeeches$Seen", "leaveOutFlourishes", "()V"⟩, 8) := ⟨⟨by decide +kernel, by decide +kernel⟩, List.mem_of_getElem? (i := 92) (by decide +kernel), List.mem_of_getElem? (i := 272) (by decide +kernel), List.mem_of_getElem? (i := 273) (by decide +kernel)⟩
theorem lw_p5 : lw_okq (⟨"BowSpeeches$Seen", "keep", "(I)V"⟩, 8) := ⟨⟨by decide +kernel, by decide +kernel⟩, List.mem_of_getElem? (i := 92) (by decide +kernel), List.mem_of_getElem? (i := 279) (by decide +kernel), List.mem_of_getElem? (i := 280) (by decide +kernel)⟩
theorem lw_p6 : lw_okq (⟨"BowSpeeches$Seen", "findReason", "()I"⟩, 8) := ⟨⟨by decide +kernel, by decide +kernel⟩, List.mem_of_getElem? (i := 92) (by decide +kernel), List.mem_of_getElem? (i := 283) (by decide +kernel), List.mem_of_getElem? (i := 284) (by decide +kernel)⟩
theorem lw_p7 : lw_okq (⟨"BowSpeeches$Seen", "isInOrder", "(I)Z"⟩, 8) := ⟨⟨by decide +kernel, by decide +kernel⟩, List.mem_of_getElem? (i := 92) (by decide +kernel), List.mem_of_getElem? (i := 287) (by decide +kernel), List.mem_of_getElem? (i := 288) (by decide +kernel)⟩
theorem lw_p8 : lw_okq (⟨"BowSpeeches", "lookThroughEyesOf", "(I)V"⟩, 7) := ⟨⟨by decide +kernel, by decide +kernel⟩, List.mem_of_getElem? (i := 9) (by decide +kernel), List.mem_of_getElem? (i := 301) (by decide +kernel), List.mem_of_getElem? (i := 302) (by decide +kernel)⟩
theorem lw_p9 : lw_okq (⟨"BowSpeeches", "sentencesSeenFor", "(I)I"⟩, 7) := ⟨⟨by decide +kernel, by decide +kernel⟩, List.mem_of_getElem? (i := 9) (by decide +kernel), List.mem_of_getElem? (i := 306) (by decide +kernel), List.mem_of_getElem? (i := 307) (by decide +kernel)⟩
theorem lw_p10 : lw_okq (⟨"BowSpeeches", "favourBehindSeen", "(II)I"⟩, 7) := ⟨⟨by decide +kernel, by decide +kernel⟩, List.mem_of_getElem? (i := 9) (by decide +kernel), List.mem_of_getElem? (i := 314) (by decide +kernel), List.mem_of_getElem? (i := 315) (by decide +kernel)⟩
theorem lw_p11 : lw_okq (⟨"BowSpeeches", "gain", "(II)I"⟩, 7) := ⟨⟨by decide +kernel, by decide +kernel⟩, List.mem_of_getElem? (i := 9) (by decide +kernel), List.mem_of_getElem? (i := 318) (by decide +kernel), List.mem_of_getElem? (i := 319) (by decide +kernel)⟩
theorem lw_p12 : lw_okq (⟨"BowSpeeches", "courtiersMisled", "()I"⟩, 7) := ⟨⟨by decide +kernel, by decide +kernel⟩, List.mem_of_getElem? (i := 9) (by decide +kernel), List.mem_of_getElem? (i := 350) (by decide +kernel), List.mem_of_getElem? (i := 351) (by decide +kernel)⟩
theorem lw_p13 : lw_okq (⟨"BowSpeeches", "sumOfAllFavours", "()I"⟩, 7) := ⟨⟨by decide +kernel, by decide +kernel⟩, List.mem_of_getElem? (i := 9) (by decide +kernel), List.mem_of_getElem? (i := 358) (by decide +kernel), List.mem_of_getElem? (i := 359) (by decide +kernel)⟩
theorem lw_p14 : lw_okq (⟨"BowSpeeches", "favoursOfCourtier", "(I)I"⟩, 7) := ⟨⟨by decide +kernel, by decide +kernel⟩, List.mem_of_getElem? (i := 9) (by decide +kernel), List.mem_of_getElem? (i := 362) (by decide +kernel), List.mem_of_getElem? (i := 363) (by decide +kernel)⟩
theorem lw_p15 : lw_okq (⟨"BowSpeeches", "favoursForGiver", "(I)I"⟩, 7) := ⟨⟨by decide +kernel, by decide +kernel⟩, List.mem_of_getElem? (i := 9) (by decide +kernel), List.mem_of_getElem? (i := 370) (by decide +kernel), List.mem_of_getElem? (i := 371) (by decide +kernel)⟩
def lw_privs_1 : List (MethodName × Nat) := [(⟨"BowSpeeches$Pad", "characterAt", "(I)C"⟩, 2), (⟨"BowSpeeches", "canBeGiven", "()Z"⟩, 7), (⟨"BowSpeeches$Seen", "findGroups", "(LBowSpeeches$Court;I)V"⟩, 8), (⟨"BowSpeeches$Seen", "addGroup", "(I)V"⟩, 8), (⟨"BowSpeeches$Seen", "leaveOutFlourishes", "()V"⟩, 8), (⟨"BowSpeeches$Seen", "keep", "(I)V"⟩, 8), (⟨"BowSpeeches$Seen", "findReason", "()I"⟩, 8), (⟨"BowSpeeches$Seen", "isInOrder", "(I)Z"⟩, 8), (⟨"BowSpeeches", "lookThroughEyesOf", "(I)V"⟩, 7), (⟨"BowSpeeches", "sentencesSeenFor", "(I)I"⟩, 7), (⟨"BowSpeeches", "favourBehindSeen", "(II)I"⟩, 7), (⟨"BowSpeeches", "gain", "(II)I"⟩, 7), (⟨"BowSpeeches", "courtiersMisled", "()I"⟩, 7), (⟨"BowSpeeches", "sumOfAllFavours", "()I"⟩, 7), (⟨"BowSpeeches", "favoursOfCourtier", "(I)I"⟩, 7), (⟨"BowSpeeches", "favoursForGiver", "(I)I"⟩, 7)]
theorem lw_r1 : ∀ q ∈ lw_privs_1, lw_okq q := List.forall_mem_cons.mpr ⟨lw_p0, List.forall_mem_cons.mpr ⟨lw_p1, List.forall_mem_cons.mpr ⟨lw_p2, List.forall_mem_cons.mpr ⟨lw_p3, List.forall_mem_cons.mpr ⟨lw_p4, List.forall_mem_cons.mpr ⟨lw_p5, List.forall_mem_cons.mpr ⟨lw_p6, List.forall_mem_cons.mpr ⟨lw_p7, List.forall_mem_cons.mpr ⟨lw_p8, List.forall_mem_cons.mpr ⟨lw_p9, List.forall_mem_cons.mpr ⟨lw_p10, List.forall_mem_cons.mpr ⟨lw_p11, List.forall_mem_cons.mpr ⟨lw_p12, List.forall_mem_cons.mpr ⟨lw_p13, List.forall_mem_cons.mpr ⟨lw_p14, List.forall_mem_cons.mpr ⟨lw_p15, fun _ h => absurd h List.not_mem_nil⟩⟩⟩⟩⟩⟩⟩⟩⟩⟩⟩⟩⟩⟩⟩⟩
theorem lw_p16 : lw_okq (⟨"BowSpeeches", "sentencesTakenIfGiven", "(I)I"⟩, 7) := ⟨⟨by decide +kernel, by decide +kernel⟩, List.mem_of_getElem? (i := 9) (by decide +kernel), List.mem_of_getElem? (i := 374) (by decide +kernel), List.mem_of_getElem? (i := 375) (by decide +kernel)⟩
theorem lw_p17 : lw_okq (⟨"BowSpeechesModel", "changes", "()V"⟩, 17) := ⟨⟨by decide +kernel, by decide +kernel⟩, List.mem_of_getElem? (i := 433) (by decide +kernel), List.mem_of_getElem? (i := 504) (by decide +kernel), List.mem_of_getElem? (i := 505) (by decide +kernel)⟩
theorem lw_p18 : lw_okq (⟨"BowSpeechesModel", "adds", "(II)V"⟩, 17) := ⟨⟨by decide +kernel, by decide +kernel⟩, List.mem_of_getElem? (i := 433) (by decide +kernel), List.mem_of_getElem? (i := 526) (by decide +kernel), List.mem_of_getElem? (i := 527) (by decide +kernel)⟩
theorem lw_p19 : lw_okq (⟨"BowSpeechesModel", "readsBow", "()Z"⟩, 17) := ⟨⟨by decide +kernel, by decide +kernel⟩, List.mem_of_getElem? (i := 433) (by decide +kernel), List.mem_of_getElem? (i := 543) (by decide +kernel), List.mem_of_getElem? (i := 544) (by decide +kernel)⟩
theorem lw_p20 : lw_okq (⟨"BowSpeechesModel", "isHere", "(II)Z"⟩, 17) := ⟨⟨by decide +kernel, by decide +kernel⟩, List.mem_of_getElem? (i := 433) (by decide +kernel), List.mem_of_getElem? (i := 547) (by decide +kernel), List.mem_of_getElem? (i := 548) (by decide +kernel)⟩
theorem lw_p21 : lw_okq (⟨"BowSpeechesModel", "takesOne", "(I)Z"⟩, 17) := ⟨⟨by decide +kernel, by decide +kernel⟩, List.mem_of_getElem? (i := 433) (by decide +kernel), List.mem_of_getElem? (i := 551) (by decide +kernel), List.mem_of_getElem? (i := 552) (by decide +kernel)⟩
theorem lw_p22 : lw_okq (⟨"BowSpeechesModel", "hushes", "()V"⟩, 17) := ⟨⟨by decide +kernel, by decide +kernel⟩, List.mem_of_getElem? (i := 433) (by decide +kernel), List.mem_of_getElem? (i := 561) (by decide +kernel), List.mem_of_getElem? (i := 562) (by decide +kernel)⟩
theorem lw_p23 : lw_okq (⟨"BowSpeechesModel", "canGive", "()Z"⟩, 17) := ⟨⟨by decide +kernel, by decide +kernel⟩, List.mem_of_getElem? (i := 433) (by decide +kernel), List.mem_of_getElem? (i := 569) (by decide +kernel), List.mem_of_getElem? (i := 570) (by decide +kernel)⟩
theorem lw_p24 : lw_okq (⟨"BowSpeechesModel", "sentences", "(I)I"⟩, 17) := ⟨⟨by decide +kernel, by decide +kernel⟩, List.mem_of_getElem? (i := 433) (by decide +kernel), List.mem_of_getElem? (i := 573) (by decide +kernel), List.mem_of_getElem? (i := 574) (by decide +kernel)⟩
theorem lw_p25 : lw_okq (⟨"BowSpeechesModel", "parts", "(I)V"⟩, 17) := ⟨⟨by decide +kernel, by decide +kernel⟩, List.mem_of_getElem? (i := 433) (by decide +kernel), List.mem_of_getElem? (i := 577) (by decide +kernel), List.mem_of_getElem? (i := 578) (by decide +kernel)⟩
theorem lw_p26 : lw_okq (⟨"BowSpeechesModel", "signSeen", "(II)I"⟩, 17) := ⟨⟨by decide +kernel, by decide +kernel⟩, List.mem_of_getElem? (i := 433) (by decide +kernel), List.mem_of_getElem? (i := 581) (by decide +kernel), List.mem_of_getElem? (i := 582) (by decide +kernel)⟩
theorem lw_p27 : lw_okq (⟨"BowSpeechesModel", "endsSeen", "(II)Z"⟩, 17) := ⟨⟨by decide +kernel, by decide +kernel⟩, List.mem_of_getElem? (i := 433) (by decide +kernel), List.mem_of_getElem? (i := 585) (by decide +kernel), List.mem_of_getElem? (i := 586) (by decide +kernel)⟩
theorem lw_p28 : lw_okq (⟨"BowSpeechesModel", "reason", "()I"⟩, 17) := ⟨⟨by decide +kernel, by decide +kernel⟩, List.mem_of_getElem? (i := 433) (by decide +kernel), List.mem_of_getElem? (i := 592) (by decide +kernel), List.mem_of_getElem? (i := 593) (by decide +kernel)⟩
theorem lw_p29 : lw_okq (⟨"BowSpeechesModel", "isTooLong", "()Z"⟩, 17) := ⟨⟨by decide +kernel, by decide +kernel⟩, List.mem_of_getElem? (i := 433) (by decide +kernel), List.mem_of_getElem? (i := 596) (by decide +kernel), List.mem_of_getElem? (i := 597) (by decide +kernel)⟩
theorem lw_p30 : lw_okq (⟨"BowSpeechesModel", "isRightThree", "(I)Z"⟩, 17) := ⟨⟨by decide +kernel, by decide +kernel⟩, List.mem_of_getElem? (i := 433) (by decide +kernel), List.mem_of_getElem? (i := 600) (by decide +kernel), List.mem_of_getElem? (i := 601) (by decide +kernel)⟩
theorem lw_p31 : lw_okq (⟨"BowSpeechesModel", "gives", "()I"⟩, 17) := ⟨⟨by decide +kernel, by decide +kernel⟩, List.mem_of_getElem? (i := 433) (by decide +kernel), List.mem_of_getElem? (i := 609) (by decide +kernel), List.mem_of_getElem? (i := 610) (by decide +kernel)⟩
def lw_privs_2 : List (MethodName × Nat) := [(⟨"BowSpeeches", "sentencesTakenIfGiven", "(I)I"⟩, 7), (⟨"BowSpeechesModel", "changes", "()V"⟩, 17), (⟨"BowSpeechesModel", "adds", "(II)V"⟩, 17), (⟨"BowSpeechesModel", "readsBow", "()Z"⟩, 17), (⟨"BowSpeechesModel", "isHere", "(II)Z"⟩, 17), (⟨"BowSpeechesModel", "takesOne", "(I)Z"⟩, 17), (⟨"BowSpeechesModel", "hushes", "()V"⟩, 17), (⟨"BowSpeechesModel", "canGive", "()Z"⟩, 17), (⟨"BowSpeechesModel", "sentences", "(I)I"⟩, 17), (⟨"BowSpeechesModel", "parts", "(I)V"⟩, 17), (⟨"BowSpeechesModel", "signSeen", "(II)I"⟩, 17), (⟨"BowSpeechesModel", "endsSeen", "(II)Z"⟩, 17), (⟨"BowSpeechesModel", "reason", "()I"⟩, 17), (⟨"BowSpeechesModel", "isTooLong", "()Z"⟩, 17), (⟨"BowSpeechesModel", "isRightThree", "(I)Z"⟩, 17), (⟨"BowSpeechesModel", "gives", "()I"⟩, 17)]
theorem lw_r2 : ∀ q ∈ lw_privs_2, lw_okq q := List.forall_mem_cons.mpr ⟨lw_p16, List.forall_mem_cons.mpr ⟨lw_p17, List.forall_mem_cons.mpr ⟨lw_p18, List.forall_mem_cons.mpr ⟨lw_p19, List.forall_mem_cons.mpr ⟨lw_p20, List.forall_mem_cons.mpr ⟨lw_p21, List.forall_mem_cons.mpr ⟨lw_p22, List.forall_mem_cons.mpr ⟨lw_p23, List.forall_mem_cons.mpr ⟨lw_p24, List.forall_mem_cons.mpr ⟨lw_p25, List.forall_mem_cons.mpr ⟨lw_p26, List.forall_mem_cons.mpr ⟨lw_p27, List.forall_mem_cons.mpr ⟨lw_p28, List.forall_mem_cons.mpr ⟨lw_p29, List.forall_mem_cons.mpr ⟨lw_p30, List.forall_mem_cons.mpr ⟨lw_p31, fun _ h => absurd h List.not_mem_nil⟩⟩⟩⟩⟩⟩⟩⟩⟩⟩⟩⟩⟩⟩⟩⟩
theorem lw_p32 : lw_okq (⟨"BowSpeechesModel", "takesAll", "(I)I"⟩, 17) := ⟨⟨by decide +kernel, by decide +kernel⟩, List.mem_of_getElem? (i := 433) (by decide +kernel), List.mem_of_getElem? (i := 613) (by decide +kernel), List.mem_of_getElem? (i := 614) (by decide +kernel)⟩
theorem lw_p33 : lw_okq (⟨"BowSpeechesModel", "takes", "(IIII)V"⟩, 17) := ⟨⟨by decide +kernel, by decide +kernel⟩, List.mem_of_getElem? (i := 433) (by decide +kernel), List.mem_of_getElem? (i := 617) (by decide +kernel), List.mem_of_getElem? (i := 618) (by decide +kernel)⟩
theorem lw_p34 : lw_okq (⟨"BowSpeechesModel", "flourishes", "()I"⟩, 17) := ⟨⟨by decide +kernel, by decide +kernel⟩, List.mem_of_getElem? (i := 433) (by decide +kernel), List.mem_of_getElem? (i := 628) (by decide +kernel), List.mem_of_getElem? (i := 629) (by decide +kernel)⟩
theorem lw_p35 : lw_okq (⟨"BowSpeechesModel", "othersSeen", "()I"⟩, 17) := ⟨⟨by decide +kernel, by decide +kernel⟩, List.mem_of_getElem? (i := 433) (by decide +kernel), List.mem_of_getElem? (i := 648) (by decide +kernel), List.mem_of_getElem? (i := 649) (by decide +kernel)⟩
theorem lw_p36 : lw_okq (⟨"BowSpeechesModel", "seesOthers", "(I)Z"⟩, 17) := ⟨⟨by decide +kernel, by decide +kernel⟩, List.mem_of_getElem? (i := 433) (by decide +kernel), List.mem_of_getElem? (i := 652) (by decide +kernel), List.mem_of_getElem? (i := 653) (by decide +kernel)⟩
theorem lw_p37 : lw_okq (⟨"BowSpeechesModel", "favours", "(II)I"⟩, 17) := ⟨⟨by decide +kernel, by decide +kernel⟩, List.mem_of_getElem? (i := 433) (by decide +kernel), List.mem_of_getElem? (i := 656) (by decide +kernel), List.mem_of_getElem? (i := 657) (by decide +kernel)⟩
theorem lw_p38 : lw_okq (⟨"BowSpeechesModel", "wouldTake", "(I)I"⟩, 17) := ⟨⟨by decide +kernel, by decide +kernel⟩, List.mem_of_getElem? (i := 433) (by decide +kernel), List.mem_of_getElem? (i := 664) (by decide +kernel), List.mem_of_getElem? (i := 665) (by decide +kernel)⟩
theorem lw_p39 : lw_okq (⟨"BowSpeechesModel", "keeps", "()V"⟩, 17) := ⟨⟨by decide +kernel, by decide +kernel⟩, List.mem_of_getElem? (i := 433) (by decide +kernel), List.mem_of_getElem? (i := 672) (by decide +kernel), List.mem_of_getElem? (i := 673) (by decide +kernel)⟩
theorem lw_p40 : lw_okq (⟨"BowSpeechesModel", "comesBack", "()V"⟩, 17) := ⟨⟨by decide +kernel, by decide +kernel⟩, List.mem_of_getElem? (i := 433) (by decide +kernel), List.mem_of_getElem? (i := 676) (by decide +kernel), List.mem_of_getElem? (i := 677) (by decide +kernel)⟩
def lw_privs_3 : List (MethodName × Nat) := [(⟨"BowSpeechesModel", "takesAll", "(I)I"⟩, 17), (⟨"BowSpeechesModel", "takes", "(IIII)V"⟩, 17), (⟨"BowSpeechesModel", "flourishes", "()I"⟩, 17), (⟨"BowSpeechesModel", "othersSeen", "()I"⟩, 17), (⟨"BowSpeechesModel", "seesOthers", "(I)Z"⟩, 17), (⟨"BowSpeechesModel", "favours", "(II)I"⟩, 17), (⟨"BowSpeechesModel", "wouldTake", "(I)I"⟩, 17), (⟨"BowSpeechesModel", "keeps", "()V"⟩, 17), (⟨"BowSpeechesModel", "comesBack", "()V"⟩, 17)]
theorem lw_r3 : ∀ q ∈ lw_privs_3, lw_okq q := List.forall_mem_cons.mpr ⟨lw_p32, List.forall_mem_cons.mpr ⟨lw_p33, List.forall_mem_cons.mpr ⟨lw_p34, List.forall_mem_cons.mpr ⟨lw_p35, List.forall_mem_cons.mpr ⟨lw_p36, List.forall_mem_cons.mpr ⟨lw_p37, List.forall_mem_cons.mpr ⟨lw_p38, List.forall_mem_cons.mpr ⟨lw_p39, List.forall_mem_cons.mpr ⟨lw_p40, fun _ h => absurd h List.not_mem_nil⟩⟩⟩⟩⟩⟩⟩⟩⟩
def lw_privs : List (MethodName × Nat) := lw_privs_1 ++ (lw_privs_2 ++ (lw_privs_3))
def lw_tbl : List Cond := k2_sels lw_privs ++ tables_1
theorem lw_privs_ok : ∀ q ∈ lw_privs, lw_okq q := by
  show ∀ q ∈ lw_privs_1 ++ (lw_privs_2 ++ (lw_privs_3)), lw_okq q
  exact List.forall_mem_append.mpr ⟨lw_r1, List.forall_mem_append.mpr ⟨lw_r2, lw_r3⟩⟩

def RX0 : String := "BowSpeeches$Court"
def TX0 : u_T := fun k => match k with
  | 0 => ("BowSpeeches$Court", "settings", "[I", true)
  | 1 => ("BowSpeeches$Court", "eyes", "[I", true)
  | 2 => ("BowSpeeches$Court", "favours", "[I", true)
  | 3 => ("BowSpeeches$Court", "numbers", "[I", true)
  | 4 => ("BowSpeeches$Court", "pauses", "[I", true)
  | 5 => ("BowSpeeches$Court", "bows", "I", false)
  | 6 => ("BowSpeeches$Court", "given", "I", false)
  | _ => ("BowSpeeches$Court", "taken", "I", false)
def tyX0 : Nat → FieldType := fun k => match k with
  | 0 => .array .int
  | 1 => .array .int
  | 2 => .array .int
  | 3 => .array .int
  | 4 => .array .int
  | 5 => .int
  | 6 => .int
  | _ => .int
abbrev wsX00 : List Cond := u_ws RX0 TX0 8
theorem nmX0 : ∀ a, a < 8 → ∀ b, b < 8 → a ≠ b → (TX0 a).2.1 ≠ (TX0 b).2.1 := by decide +kernel
theorem tyX0_ok : ∀ k, k < 8 → parseFieldDescriptor (TX0 k).2.2.1 = some (tyX0 k) := by decide +kernel
abbrev cX0_init : ByteArray := prog_2_method_1_code
def yX0_init : MethodName := ⟨RX0, "<init>", "()V"⟩
abbrev cX0_become : ByteArray := prog_2_method_2_code
def yX0_become : MethodName := ⟨RX0, "become", "(LBowSpeeches$Court;)V"⟩
abbrev cX0_addBow : ByteArray := prog_2_method_3_code
def yX0_addBow : MethodName := ⟨RX0, "addBow", "(II)V"⟩
abbrev cX0_bowAt : ByteArray := prog_2_method_4_code
def yX0_bowAt : MethodName := ⟨RX0, "bowAt", "(I)I"⟩
def RX1 : String := "BowSpeeches$History"
def TX1 : u_T := fun k => match k with
  | 0 => ("BowSpeeches$History", "states", "[LBowSpeeches$Court;", true)
  | 1 => ("BowSpeeches$History", "next", "I", false)
  | _ => ("BowSpeeches$History", "size", "I", false)
def tyX1 : Nat → FieldType := fun k => match k with
  | 0 => .array (.object "BowSpeeches$Court")
  | 1 => .int
  | _ => .int
abbrev wsX10 : List Cond := u_ws RX1 TX1 3
theorem nmX1 : ∀ a, a < 3 → ∀ b, b < 3 → a ≠ b → (TX1 a).2.1 ≠ (TX1 b).2.1 := by decide +kernel
theorem tyX1_ok : ∀ k, k < 3 → parseFieldDescriptor (TX1 k).2.2.1 = some (tyX1 k) := by decide +kernel
abbrev cX1_init : ByteArray := prog_3_method_1_code
def yX1_init : MethodName := ⟨RX1, "<init>", "()V"⟩
abbrev cX1_remember : ByteArray := prog_3_method_2_code
def yX1_remember : MethodName := ⟨RX1, "remember", "(LBowSpeeches$Court;)V"⟩
abbrev cX1_stepBack : ByteArray := prog_3_method_3_code
def yX1_stepBack : MethodName := ⟨RX1, "stepBack", "(LBowSpeeches$Court;)Z"⟩
def RX2 : String := "BowSpeeches$Pad"
def TX2 : u_T := fun k => match k with
  | 0 => ("BowSpeeches$Pad", "characters", "[C", true)
  | _ => ("BowSpeeches$Pad", "length", "I", false)
def tyX2 : Nat → FieldType := fun k => match k with
  | 0 => .array .char
  | _ => .int
abbrev wsX20 : List Cond := u_ws RX2 TX2 2
theorem nmX2 : ∀ a, a < 2 → ∀ b, b < 2 → a ≠ b → (TX2 a).2.1 ≠ (TX2 b).2.1 := by decide +kernel
theorem tyX2_ok : ∀ k, k < 2 → parseFieldDescriptor (TX2 k).2.2.1 = some (tyX2 k) := by decide +kernel
abbrev cX2_init : ByteArray := prog_4_method_1_code
def yX2_init : MethodName := ⟨RX2, "<init>", "()V"⟩
abbrev cX2_append : ByteArray := prog_4_method_2_code
def yX2_append : MethodName := ⟨RX2, "append", "(C)V"⟩
abbrev cX2_characterAt : ByteArray := prog_4_method_3_code
def yX2_characterAt : MethodName := ⟨RX2, "characterAt", "(I)C"⟩
abbrev cX2_firstFault : ByteArray := prog_4_method_4_code
def yX2_firstFault : MethodName := ⟨RX2, "firstFault", "()I"⟩
abbrev cX2_placeBehind : ByteArray := prog_4_method_5_code
def yX2_placeBehind : MethodName := ⟨RX2, "placeBehind", "(IC)I"⟩
abbrev cX2_bowsInText : ByteArray := prog_4_method_6_code
def yX2_bowsInText : MethodName := ⟨RX2, "bowsInText", "()I"⟩
abbrev cX2_addBowsTo : ByteArray := prog_4_method_7_code
def yX2_addBowsTo : MethodName := ⟨RX2, "addBowsTo", "(LBowSpeeches$Court;)V"⟩
def RX3 : String := "BowSpeeches$Seen"
def TX3 : u_T := fun k => match k with
  | 0 => ("BowSpeeches$Seen", "words", "[I", true)
  | 1 => ("BowSpeeches$Seen", "groups", "I", false)
  | 2 => ("BowSpeeches$Seen", "left", "[I", true)
  | 3 => ("BowSpeeches$Seen", "kept", "I", false)
  | 4 => ("BowSpeeches$Seen", "flourishes", "I", false)
  | 5 => ("BowSpeeches$Seen", "longGroups", "I", false)
  | 6 => ("BowSpeeches$Seen", "reason", "I", false)
  | _ => ("BowSpeeches$Seen", "sentences", "I", false)
def tyX3 : Nat → FieldType := fun k => match k with
  | 0 => .array .int
  | 1 => .int
  | 2 => .array .int
  | 3 => .int
  | 4 => .int
  | 5 => .int
  | 6 => .int
  | _ => .int
abbrev wsX30 : List Cond := u_ws RX3 TX3 8
theorem nmX3 : ∀ a, a < 8 → ∀ b, b < 8 → a ≠ b → (TX3 a).2.1 ≠ (TX3 b).2.1 := by decide +kernel
theorem tyX3_ok : ∀ k, k < 8 → parseFieldDescriptor (TX3 k).2.2.1 = some (tyX3 k) := by decide +kernel
abbrev cX3_init : ByteArray := prog_5_method_1_code
def yX3_init : MethodName := ⟨RX3, "<init>", "()V"⟩
abbrev cX3_look : ByteArray := prog_5_method_2_code
def yX3_look : MethodName := ⟨RX3, "look", "(LBowSpeeches$Court;I)V"⟩
abbrev cX3_findGroups : ByteArray := prog_5_method_3_code
def yX3_findGroups : MethodName := ⟨RX3, "findGroups", "(LBowSpeeches$Court;I)V"⟩
abbrev cX3_seenNumber : ByteArray := prog_5_method_4_code
def yX3_seenNumber : MethodName := ⟨RX3, "seenNumber", "(II)I"⟩
abbrev cX3_seenAsBreak : ByteArray := prog_5_method_5_code
def yX3_seenAsBreak : MethodName := ⟨RX3, "seenAsBreak", "(III)Z"⟩
abbrev cX3_wordOf : ByteArray := prog_5_method_6_code
def yX3_wordOf : MethodName := ⟨RX3, "wordOf", "(II)I"⟩
abbrev cX3_addGroup : ByteArray := prog_5_method_7_code
def yX3_addGroup : MethodName := ⟨RX3, "addGroup", "(I)V"⟩
abbrev cX3_leaveOutFlourishes : ByteArray := prog_5_method_8_code
def yX3_leaveOutFlourishes : MethodName := ⟨RX3, "leaveOutFlourishes", "()V"⟩
abbrev cX3_keep : ByteArray := prog_5_method_9_code
def yX3_keep : MethodName := ⟨RX3, "keep", "(I)V"⟩
abbrev cX3_findReason : ByteArray := prog_5_method_10_code
def yX3_findReason : MethodName := ⟨RX3, "findReason", "()I"⟩
abbrev cX3_isInOrder : ByteArray := prog_5_method_11_code
def yX3_isInOrder : MethodName := ⟨RX3, "isInOrder", "(I)Z"⟩
abbrev cX3_part : ByteArray := prog_5_method_12_code
def yX3_part : MethodName := ⟨RX3, "part", "(II)I"⟩
abbrev cX3_isKind : ByteArray := prog_5_method_13_code
def yX3_isKind : MethodName := ⟨RX3, "isKind", "(I)Z"⟩
abbrev cX3_saysTheSameAs : ByteArray := prog_5_method_14_code
def yX3_saysTheSameAs : MethodName := ⟨RX3, "saysTheSameAs", "(LBowSpeeches$Seen;)Z"⟩
def RX4 : String := "BowSpeeches"
def TX4 : u_T := fun k => match k with
  | 0 => ("BowSpeeches", "court", "LBowSpeeches$Court;", true)
  | 1 => ("BowSpeeches", "pad", "LBowSpeeches$Pad;", true)
  | 2 => ("BowSpeeches", "history", "LBowSpeeches$History;", true)
  | 3 => ("BowSpeeches", "slots", "[LBowSpeeches$Court;", true)
  | 4 => ("BowSpeeches", "seen", "LBowSpeeches$Seen;", true)
  | 5 => ("BowSpeeches", "plain", "LBowSpeeches$Seen;", true)
  | _ => ("BowSpeeches", "trial", "LBowSpeeches$Court;", true)
def tyX4 : Nat → FieldType := fun k => match k with
  | 0 => .object "BowSpeeches$Court"
  | 1 => .object "BowSpeeches$Pad"
  | 2 => .object "BowSpeeches$History"
  | 3 => .array (.object "BowSpeeches$Court")
  | 4 => .object "BowSpeeches$Seen"
  | 5 => .object "BowSpeeches$Seen"
  | _ => .object "BowSpeeches$Court"
abbrev wsX40 : List Cond := u_ws RX4 TX4 7
theorem nmX4 : ∀ a, a < 7 → ∀ b, b < 7 → a ≠ b → (TX4 a).2.1 ≠ (TX4 b).2.1 := by decide +kernel
theorem tyX4_ok : ∀ k, k < 7 → parseFieldDescriptor (TX4 k).2.2.1 = some (tyX4 k) := by decide +kernel
abbrev cX4_init : ByteArray := prog_1_method_1_code
def yX4_init : MethodName := ⟨RX4, "<init>", "()V"⟩
abbrev cX4_set : ByteArray := prog_1_method_2_code
def yX4_set : MethodName := ⟨RX4, "set", "(II)I"⟩
abbrev cX4_eyes : ByteArray := prog_1_method_3_code
def yX4_eyes : MethodName := ⟨RX4, "eyes", "(II)I"⟩
abbrev cX4_bow : ByteArray := prog_1_method_4_code
def yX4_bow : MethodName := ⟨RX4, "bow", "(III)I"⟩
abbrev cX4_takeBack : ByteArray := prog_1_method_5_code
def yX4_takeBack : MethodName := ⟨RX4, "takeBack", "()I"⟩
abbrev cX4_read : ByteArray := prog_1_method_6_code
def yX4_read : MethodName := ⟨RX4, "read", "()I"⟩
abbrev cX4_hush : ByteArray := prog_1_method_7_code
def yX4_hush : MethodName := ⟨RX4, "hush", "()I"⟩
abbrev cX4_give : ByteArray := prog_1_method_8_code
def yX4_give : MethodName := ⟨RX4, "give", "()I"⟩
abbrev cX4_speech : ByteArray := prog_1_method_9_code
def yX4_speech : MethodName := ⟨RX4, "speech", "(II)I"⟩
abbrev cX4_word : ByteArray := prog_1_method_10_code
def yX4_word : MethodName := ⟨RX4, "word", "(II)I"⟩
abbrev cX4_sentence : ByteArray := prog_1_method_11_code
def yX4_sentence : MethodName := ⟨RX4, "sentence", "(III)I"⟩
abbrev cX4_favour : ByteArray := prog_1_method_12_code
def yX4_favour : MethodName := ⟨RX4, "favour", "(II)I"⟩
abbrev cX4_count : ByteArray := prog_1_method_13_code
def yX4_count : MethodName := ⟨RX4, "count", "(I)I"⟩
abbrev cX4_courtier : ByteArray := prog_1_method_14_code
def yX4_courtier : MethodName := ⟨RX4, "courtier", "(II)I"⟩
abbrev cX4_ifGiven : ByteArray := prog_1_method_15_code
def yX4_ifGiven : MethodName := ⟨RX4, "ifGiven", "(II)I"⟩
abbrev cX4_bestBow : ByteArray := prog_1_method_16_code
def yX4_bestBow : MethodName := ⟨RX4, "bestBow", "()I"⟩
abbrev cX4_darling : ByteArray := prog_1_method_17_code
def yX4_darling : MethodName := ⟨RX4, "darling", "()I"⟩
abbrev cX4_put : ByteArray := prog_1_method_18_code
def yX4_put : MethodName := ⟨RX4, "put", "(J)I"⟩
abbrev cX4_wipe : ByteArray := prog_1_method_19_code
def yX4_wipe : MethodName := ⟨RX4, "wipe", "()I"⟩
abbrev cX4_fault : ByteArray := prog_1_method_20_code
def yX4_fault : MethodName := ⟨RX4, "fault", "()I"⟩
abbrev cX4_undo : ByteArray := prog_1_method_21_code
def yX4_undo : MethodName := ⟨RX4, "undo", "()I"⟩
abbrev cX4_save : ByteArray := prog_1_method_22_code
def yX4_save : MethodName := ⟨RX4, "save", "(I)I"⟩
abbrev cX4_restore : ByteArray := prog_1_method_23_code
def yX4_restore : MethodName := ⟨RX4, "restore", "(I)I"⟩
abbrev cX4_isCourtier : ByteArray := prog_1_method_24_code
def yX4_isCourtier : MethodName := ⟨RX4, "isCourtier", "(I)Z"⟩
abbrev cX4_areEyes : ByteArray := prog_1_method_25_code
def yX4_areEyes : MethodName := ⟨RX4, "areEyes", "(I)Z"⟩
abbrev cX4_isSlot : ByteArray := prog_1_method_26_code
def yX4_isSlot : MethodName := ⟨RX4, "isSlot", "(I)Z"⟩
abbrev cX4_codesIn : ByteArray := prog_1_method_27_code
def yX4_codesIn : MethodName := ⟨RX4, "codesIn", "(J)I"⟩
abbrev cX4_codeAt : ByteArray := prog_1_method_28_code
def yX4_codeAt : MethodName := ⟨RX4, "codeAt", "(JI)I"⟩
abbrev cX4_bowNumber : ByteArray := prog_1_method_29_code
def yX4_bowNumber : MethodName := ⟨RX4, "bowNumber", "(II)I"⟩
abbrev cX4_isNameOfCourtier : ByteArray := prog_1_method_30_code
def yX4_isNameOfCourtier : MethodName := ⟨RX4, "isNameOfCourtier", "(I)Z"⟩
abbrev cX4_isDeed : ByteArray := prog_1_method_31_code
def yX4_isDeed : MethodName := ⟨RX4, "isDeed", "(I)Z"⟩
abbrev cX4_isFlourish : ByteArray := prog_1_method_32_code
def yX4_isFlourish : MethodName := ⟨RX4, "isFlourish", "(I)Z"⟩
abbrev cX4_at : ByteArray := prog_1_method_33_code
def yX4_at : MethodName := ⟨RX4, "at", "([II)I"⟩
abbrev cX4_copyRow : ByteArray := prog_1_method_34_code
def yX4_copyRow : MethodName := ⟨RX4, "copyRow", "([I[I)V"⟩
abbrev cX4_copyOf : ByteArray := prog_1_method_35_code
def yX4_copyOf : MethodName := ⟨RX4, "copyOf", "(LBowSpeeches$Court;LBowSpeeches$Court;)LBowSpeeches$Court;"⟩
abbrev cX4_favourIndex : ByteArray := prog_1_method_36_code
def yX4_favourIndex : MethodName := ⟨RX4, "favourIndex", "(II)I"⟩
abbrev cX4_favoursForGiver : ByteArray := prog_1_method_37_code
def yX4_favoursForGiver : MethodName := ⟨RX4, "favoursForGiver", "(I)I"⟩
abbrev cX4_favoursOfCourtier : ByteArray := prog_1_method_38_code
def yX4_favoursOfCourtier : MethodName := ⟨RX4, "favoursOfCourtier", "(I)I"⟩
abbrev cX4_sumOfAllFavours : ByteArray := prog_1_method_39_code
def yX4_sumOfAllFavours : MethodName := ⟨RX4, "sumOfAllFavours", "()I"⟩
abbrev cX4_canBeGiven : ByteArray := prog_1_method_40_code
def yX4_canBeGiven : MethodName := ⟨RX4, "canBeGiven", "()Z"⟩
abbrev cX4_sentencesTakenIfGiven : ByteArray := prog_1_method_41_code
def yX4_sentencesTakenIfGiven : MethodName := ⟨RX4, "sentencesTakenIfGiven", "(I)I"⟩
abbrev cX4_lookThroughEyesOf : ByteArray := prog_1_method_42_code
def yX4_lookThroughEyesOf : MethodName := ⟨RX4, "lookThroughEyesOf", "(I)V"⟩
abbrev cX4_sentencesSeenFor : ByteArray := prog_1_method_43_code
def yX4_sentencesSeenFor : MethodName := ⟨RX4, "sentencesSeenFor", "(I)I"⟩
abbrev cX4_favourBehindSeen : ByteArray := prog_1_method_44_code
def yX4_favourBehindSeen : MethodName := ⟨RX4, "favourBehindSeen", "(II)I"⟩
abbrev cX4_gain : ByteArray := prog_1_method_45_code
def yX4_gain : MethodName := ⟨RX4, "gain", "(II)I"⟩
abbrev cX4_courtiersMisled : ByteArray := prog_1_method_46_code
def yX4_courtiersMisled : MethodName := ⟨RX4, "courtiersMisled", "()I"⟩
def RX5 : String := "BowSpeechesModel"
def TX5 : u_T := fun k => match k with
  | 0 => ("BowSpeechesModel", "all", "[I", true)
  | 1 => ("BowSpeechesModel", "kept", "[I", true)
  | 2 => ("BowSpeechesModel", "history", "[I", true)
  | 3 => ("BowSpeechesModel", "historyLong", "I", false)
  | 4 => ("BowSpeechesModel", "slots", "[I", true)
  | 5 => ("BowSpeechesModel", "isSaved", "[I", true)
  | 6 => ("BowSpeechesModel", "words", "[I", true)
  | 7 => ("BowSpeechesModel", "groups", "I", false)
  | 8 => ("BowSpeechesModel", "left", "[I", true)
  | 9 => ("BowSpeechesModel", "leftLong", "I", false)
  | 10 => ("BowSpeechesModel", "seen", "[I", true)
  | 11 => ("BowSpeechesModel", "text", "[I", true)
  | 12 => ("BowSpeechesModel", "textLong", "I", false)
  | 13 => ("BowSpeechesModel", "spot", "I", false)
  | 14 => ("BowSpeechesModel", "signs", "[I", true)
  | 15 => ("BowSpeechesModel", "pauses", "[I", true)
  | _ => ("BowSpeechesModel", "read", "I", false)
def tyX5 : Nat → FieldType := fun k => match k with
  | 0 => .array .int
  | 1 => .array .int
  | 2 => .array .int
  | 3 => .int
  | 4 => .array .int
  | 5 => .array .int
  | 6 => .array .int
  | 7 => .int
  | 8 => .array .int
  | 9 => .int
  | 10 => .array .int
  | 11 => .array .int
  | 12 => .int
  | 13 => .int
  | 14 => .array .int
  | 15 => .array .int
  | _ => .int
abbrev wsX50 : List Cond := u_ws RX5 TX5 17
theorem nmX5 : ∀ a, a < 17 → ∀ b, b < 17 → a ≠ b → (TX5 a).2.1 ≠ (TX5 b).2.1 := by decide +kernel
theorem tyX5_ok : ∀ k, k < 17 → parseFieldDescriptor (TX5 k).2.2.1 = some (tyX5 k) := by decide +kernel
abbrev cX5_init : ByteArray := prog_7_method_1_code
def yX5_init : MethodName := ⟨RX5, "<init>", "()V"⟩
abbrev cX5_in : ByteArray := prog_7_method_3_code
def yX5_in : MethodName := ⟨RX5, "in", "(JJJ)Z"⟩
abbrev cX5_changes : ByteArray := prog_7_method_4_code
def yX5_changes : MethodName := ⟨RX5, "changes", "()V"⟩
abbrev cX5_keeps : ByteArray := prog_7_method_5_code
def yX5_keeps : MethodName := ⟨RX5, "keeps", "()V"⟩
abbrev cX5_comesBack : ByteArray := prog_7_method_6_code
def yX5_comesBack : MethodName := ⟨RX5, "comesBack", "()V"⟩
abbrev cX5_areEyes : ByteArray := prog_7_method_7_code
def yX5_areEyes : MethodName := ⟨RX5, "areEyes", "(I)Z"⟩
abbrev cX5_isCourtier : ByteArray := prog_7_method_8_code
def yX5_isCourtier : MethodName := ⟨RX5, "isCourtier", "(I)Z"⟩
abbrev cX5_signSeen : ByteArray := prog_7_method_9_code
def yX5_signSeen : MethodName := ⟨RX5, "signSeen", "(II)I"⟩
abbrev cX5_endsSeen : ByteArray := prog_7_method_10_code
def yX5_endsSeen : MethodName := ⟨RX5, "endsSeen", "(II)Z"⟩
abbrev cX5_isFlourish : ByteArray := prog_7_method_11_code
def yX5_isFlourish : MethodName := ⟨RX5, "isFlourish", "(I)Z"⟩
abbrev cX5_isDeed : ByteArray := prog_7_method_12_code
def yX5_isDeed : MethodName := ⟨RX5, "isDeed", "(I)Z"⟩
abbrev cX5_parts : ByteArray := prog_7_method_13_code
def yX5_parts : MethodName := ⟨RX5, "parts", "(I)V"⟩
abbrev cX5_isTooLong : ByteArray := prog_7_method_14_code
def yX5_isTooLong : MethodName := ⟨RX5, "isTooLong", "()Z"⟩
abbrev cX5_isRightThree : ByteArray := prog_7_method_15_code
def yX5_isRightThree : MethodName := ⟨RX5, "isRightThree", "(I)Z"⟩
abbrev cX5_reason : ByteArray := prog_7_method_16_code
def yX5_reason : MethodName := ⟨RX5, "reason", "()I"⟩
abbrev cX5_sentences : ByteArray := prog_7_method_17_code
def yX5_sentences : MethodName := ⟨RX5, "sentences", "(I)I"⟩
abbrev cX5_at : ByteArray := prog_7_method_18_code
def yX5_at : MethodName := ⟨RX5, "at", "(II)I"⟩
abbrev cX5_takes : ByteArray := prog_7_method_19_code
def yX5_takes : MethodName := ⟨RX5, "takes", "(IIII)V"⟩
abbrev cX5_takesAll : ByteArray := prog_7_method_20_code
def yX5_takesAll : MethodName := ⟨RX5, "takesAll", "(I)I"⟩
abbrev cX5_hushes : ByteArray := prog_7_method_21_code
def yX5_hushes : MethodName := ⟨RX5, "hushes", "()V"⟩
abbrev cX5_gives : ByteArray := prog_7_method_22_code
def yX5_gives : MethodName := ⟨RX5, "gives", "()I"⟩
abbrev cX5_canGive : ByteArray := prog_7_method_23_code
def yX5_canGive : MethodName := ⟨RX5, "canGive", "()Z"⟩
abbrev cX5_isSetting : ByteArray := prog_7_method_24_code
def yX5_isSetting : MethodName := ⟨RX5, "isSetting", "(II)Z"⟩
abbrev cX5_set : ByteArray := prog_7_method_25_code
def yX5_set : MethodName := ⟨RX5, "set", "(II)I"⟩
abbrev cX5_eyes : ByteArray := prog_7_method_26_code
def yX5_eyes : MethodName := ⟨RX5, "eyes", "(II)I"⟩
abbrev cX5_adds : ByteArray := prog_7_method_27_code
def yX5_adds : MethodName := ⟨RX5, "adds", "(II)V"⟩
abbrev cX5_bow : ByteArray := prog_7_method_28_code
def yX5_bow : MethodName := ⟨RX5, "bow", "(III)I"⟩
abbrev cX5_takeBack : ByteArray := prog_7_method_29_code
def yX5_takeBack : MethodName := ⟨RX5, "takeBack", "()I"⟩
abbrev cX5_read : ByteArray := prog_7_method_30_code
def yX5_read : MethodName := ⟨RX5, "read", "()I"⟩
abbrev cX5_hush : ByteArray := prog_7_method_31_code
def yX5_hush : MethodName := ⟨RX5, "hush", "()I"⟩
abbrev cX5_give : ByteArray := prog_7_method_32_code
def yX5_give : MethodName := ⟨RX5, "give", "()I"⟩
abbrev cX5_flourishes : ByteArray := prog_7_method_33_code
def yX5_flourishes : MethodName := ⟨RX5, "flourishes", "()I"⟩
abbrev cX5_speech : ByteArray := prog_7_method_34_code
def yX5_speech : MethodName := ⟨RX5, "speech", "(II)I"⟩
abbrev cX5_word : ByteArray := prog_7_method_35_code
def yX5_word : MethodName := ⟨RX5, "word", "(II)I"⟩
abbrev cX5_sentence : ByteArray := prog_7_method_36_code
def yX5_sentence : MethodName := ⟨RX5, "sentence", "(III)I"⟩
abbrev cX5_favour : ByteArray := prog_7_method_37_code
def yX5_favour : MethodName := ⟨RX5, "favour", "(II)I"⟩
abbrev cX5_seesOthers : ByteArray := prog_7_method_38_code
def yX5_seesOthers : MethodName := ⟨RX5, "seesOthers", "(I)Z"⟩
abbrev cX5_favours : ByteArray := prog_7_method_39_code
def yX5_favours : MethodName := ⟨RX5, "favours", "(II)I"⟩
abbrev cX5_othersSeen : ByteArray := prog_7_method_40_code
def yX5_othersSeen : MethodName := ⟨RX5, "othersSeen", "()I"⟩
abbrev cX5_count : ByteArray := prog_7_method_41_code
def yX5_count : MethodName := ⟨RX5, "count", "(I)I"⟩
abbrev cX5_wouldTake : ByteArray := prog_7_method_42_code
def yX5_wouldTake : MethodName := ⟨RX5, "wouldTake", "(I)I"⟩
abbrev cX5_courtier : ByteArray := prog_7_method_43_code
def yX5_courtier : MethodName := ⟨RX5, "courtier", "(II)I"⟩
abbrev cX5_ifGiven : ByteArray := prog_7_method_44_code
def yX5_ifGiven : MethodName := ⟨RX5, "ifGiven", "(II)I"⟩
abbrev cX5_bestBow : ByteArray := prog_7_method_45_code
def yX5_bestBow : MethodName := ⟨RX5, "bestBow", "()I"⟩
abbrev cX5_darling : ByteArray := prog_7_method_46_code
def yX5_darling : MethodName := ⟨RX5, "darling", "()I"⟩
abbrev cX5_charactersOf : ByteArray := prog_7_method_47_code
def yX5_charactersOf : MethodName := ⟨RX5, "charactersOf", "(J)I"⟩
abbrev cX5_put : ByteArray := prog_7_method_48_code
def yX5_put : MethodName := ⟨RX5, "put", "(J)I"⟩
abbrev cX5_wipe : ByteArray := prog_7_method_49_code
def yX5_wipe : MethodName := ⟨RX5, "wipe", "()I"⟩
abbrev cX5_isHere : ByteArray := prog_7_method_50_code
def yX5_isHere : MethodName := ⟨RX5, "isHere", "(II)Z"⟩
abbrev cX5_takesOne : ByteArray := prog_7_method_51_code
def yX5_takesOne : MethodName := ⟨RX5, "takesOne", "(I)Z"⟩
abbrev cX5_readsBow : ByteArray := prog_7_method_52_code
def yX5_readsBow : MethodName := ⟨RX5, "readsBow", "()Z"⟩
abbrev cX5_fault : ByteArray := prog_7_method_53_code
def yX5_fault : MethodName := ⟨RX5, "fault", "()I"⟩
abbrev cX5_undo : ByteArray := prog_7_method_54_code
def yX5_undo : MethodName := ⟨RX5, "undo", "()I"⟩
abbrev cX5_isSlot : ByteArray := prog_7_method_55_code
def yX5_isSlot : MethodName := ⟨RX5, "isSlot", "(I)Z"⟩
abbrev cX5_save : ByteArray := prog_7_method_56_code
def yX5_save : MethodName := ⟨RX5, "save", "(I)I"⟩
abbrev cX5_restore : ByteArray := prog_7_method_57_code
def yX5_restore : MethodName := ⟨RX5, "restore", "(I)I"⟩
def RJ9 : String := "java/lang/Math"
def TJ9 : u_T := fun k => match k with
  | _ => ("", "", "", false)
def tyJ9 : Nat → FieldType := fun k => match k with
  | _ => .int
abbrev wsJ90 : List Cond := u_ws RJ9 TJ9 0
theorem nmJ9 : ∀ a, a < 0 → ∀ b, b < 0 → a ≠ b → (TJ9 a).2.1 ≠ (TJ9 b).2.1 := by decide +kernel
theorem tyJ9_ok : ∀ k, k < 0 → parseFieldDescriptor (TJ9 k).2.2.1 = some (tyJ9 k) := by decide +kernel
abbrev cJ9_max_7cf53 : ByteArray := prog_8_method_65_code
def yJ9_max_7cf53 : MethodName := ⟨RJ9, "max", "(II)I"⟩
abbrev cJ9_min_7cf53 : ByteArray := prog_8_method_69_code
def yJ9_min_7cf53 : MethodName := ⟨RJ9, "min", "(II)I"⟩
def RL : String := "BowSpeechesLaw"
abbrev cL_law : ByteArray := code
def yL_law : MethodName := ⟨RL, "law", "([I)Z"⟩
abbrev vwCl : List vw_C := [(RX0, TX0, 8), (RX1, TX1, 3), (RX2, TX2, 2), (RX3, TX3, 8), (RX4, TX4, 7), (RX5, TX5, 17)]

theorem inX0 : ∀ w ∈ wsX00, w ∈ lw_tbl := by decide +kernel
theorem inX1 : ∀ w ∈ wsX10, w ∈ lw_tbl := by decide +kernel
theorem inX2 : ∀ w ∈ wsX20, w ∈ lw_tbl := by decide +kernel
theorem inX3 : ∀ w ∈ wsX30, w ∈ lw_tbl := by decide +kernel
theorem inX4 : ∀ w ∈ wsX40, w ∈ lw_tbl := by decide +kernel
theorem inX5 : ∀ w ∈ wsX50, w ∈ lw_tbl := by decide +kernel
