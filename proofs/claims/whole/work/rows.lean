section
-- ===== PART A: goes FIRST, ahead of the names: the tables' words, and 'selects' of the private methods out of them =====
/-- a private method of a class that the tables say can be made, by its rows of tables_1 -/
def lw_okq (q : MethodName × Nat) : Prop := (q.1.cls ≠ "java/lang/invoke/MethodHandle" ∧ q.1.cls ≠ "java/lang/invoke/VarHandle") ∧ Cond.instantiable q.1.cls q.2 ∈ tables_1 ∧ Cond.privateMethod q.1 ∈ tables_1 ∧ Cond.instanceMethod q.1 ∈ tables_1
theorem lw_p0 : lw_okq (⟨"BowSpeeches$Pad", "characterAt", "(I)C"⟩, 2) := ⟨⟨by decide +kernel, by decide +kernel⟩, List.mem_of_getElem? (i := 58) (by decide +kernel), List.mem_of_getElem? (i := 215) (by decide +kernel), List.mem_of_getElem? (i := 216) (by decide +kernel)⟩
theorem lw_p1 : lw_okq (⟨"BowSpeeches", "canBeGiven", "()Z"⟩, 7) := ⟨⟨by decide +kernel, by decide +kernel⟩, List.mem_of_getElem? (i := 9) (by decide +kernel), List.mem_of_getElem? (i := 243) (by decide +kernel), List.mem_of_getElem? (i := 244) (by decide +kernel)⟩
theorem lw_p2 : lw_okq (⟨"BowSpeeches$Seen", "findGroups", "(LBowSpeeches$Court;I)V"⟩, 8) := ⟨⟨by decide +kernel, by decide +kernel⟩, List.mem_of_getElem? (i := 92) (by decide +kernel), List.mem_of_getElem? (i := 251) (by decide +kernel), List.mem_of_getElem? (i := 252) (by decide +kernel)⟩
theorem lw_p3 : lw_okq (⟨"BowSpeeches$Seen", "addGroup", "(I)V"⟩, 8) := ⟨⟨by decide +kernel, by decide +kernel⟩, List.mem_of_getElem? (i := 92) (by decide +kernel), List.mem_of_getElem? (i := 268) (by decide +kernel), List.mem_of_getElem? (i := 269) (by decide +kernel)⟩
theorem lw_p4 : lw_okq (⟨"BowSpeeches$Seen", "leaveOutFlourishes", "()V"⟩, 8) := ⟨⟨by decide +kernel, by decide +kernel⟩, List.mem_of_getElem? (i := 92) (by decide +kernel), List.mem_of_getElem? (i := 272) (by decide +kernel), List.mem_of_getElem? (i := 273) (by decide +kernel)⟩
theorem lw_p5 : lw_okq (⟨"BowSpeeches$Seen", "keep", "(I)V"⟩, 8) := ⟨⟨by decide +kernel, by decide +kernel⟩, List.mem_of_getElem? (i := 92) (by decide +kernel), List.mem_of_getElem? (i := 279) (by decide +kernel), List.mem_of_getElem? (i := 280) (by decide +kernel)⟩
theorem lw_p6 : lw_okq (⟨"BowSpeeches$Seen", "findReason", "()I"⟩, 8) := ⟨⟨by decide +kernel, by decide +kernel⟩, List.mem_of_getElem? (i := 92) (by decide +kernel), List.mem_of_getElem? (i := 283) (by decide +kernel), List.mem_of_getElem? (i := 284) (by decide +kernel)⟩
theorem lw_p7 : lw_okq (⟨"BowSpeeches$Seen", "isInOrder", "(I)Z"⟩, 8) := ⟨⟨by decide +kernel, by decide +kernel⟩, List.mem_of_getElem? (i := 92) (by decide +kernel), List.mem_of_getElem? (i := 287) (by decide +kernel), List.mem_of_getElem? (i := 288) (by decide +kernel)⟩
theorem lw_p8 : lw_okq (⟨"BowSpeeches", "lookThroughEyesOf", "(I)V"⟩, 7) := ⟨⟨by decide +kernel, by decide +kernel⟩, List.mem_of_getElem? (i := 9) (by decide +kernel), List.mem_of_getElem? (i := 301) (by decide +kernel), List.mem_of_getElem? (i := 302) (by decide +kernel)⟩
theorem lw_p9 : lw_okq (⟨"BowSpeeches", "sentencesSeenFor", "(I)I"⟩, 7) := ⟨⟨by decide +kernel, by decide +kernel⟩, List.mem_of_getElem? (i := 9) (by decide +kernel), List.mem_of_getElem? (i := 306) (by decide +kernel), List.mem_of_getElem? (i := 307) (by decide +kernel)⟩
theorem lw_p10 : lw_okq (⟨"BowSpeeches", "favourBehindSeen", "(II)I"⟩, 7) := ⟨⟨by decide +kernel, by decide +kernel⟩, List.mem_of_getElem? (i := 9) (by decide +kernel), List.mem_of_getElem? (i := 314) (by decide +kernel), List.mem_of_getElem? (i := 315) (by decide +kernel)⟩
theorem lw_p11 : lw_okq (⟨"BowSpeeches", "gain", "(II)I"⟩, 7) := ⟨⟨by decide +kernel, by decide +kernel⟩, List.mem_of_getElem? (i := 9) (by decide +kernel), List.mem_of_getElem? (i := 318) (by decide +kernel), List.mem_of_getElem? (i := 319) (by decide +kernel)⟩
theorem lw_p12 : lw_okq (⟨"BowSpeeches", "courtiersMisled", "()I"⟩, 7) := ⟨⟨by decide +kernel, by decide +kernel⟩, List.mem_of_getElem? (i := 9) (by decide +kernel), List.mem_of_getElem? (i := 350) (by decide +kernel), List.mem_of_getElem? (i := 351) (by decide +kernel)⟩
theorem lw_p13 : lw_okq (⟨"BowSpeeches", "sumOfAllFavours", "()I"⟩, 7) := ⟨⟨by decide +kernel, by decide +kernel⟩, List.mem_of_getElem? (i := 9) (by decide +kernel), List.mem_of_getElem? (i := 358) (by decide +kernel), List.mem_of_getElem? (i := 359) (by decide +kernel)⟩
theorem lw_p14 : lw_okq (⟨"BowSpeeches", "favoursOfCourtier", "(I)I"⟩, 7) := ⟨⟨by decide +kernel, by decide +kernel⟩, List.mem_of_getElem? (i := 9) (by decide +kernel), List.mem_of_getElem? (i := 362) (by decide +kernel), List.mem_of_getElem? (i := 363) (by decide +kernel)⟩
theorem lw_p15 : lw_okq (⟨"BowSpeeches", "favoursForGiver", "(I)I"⟩, 7) := ⟨⟨by decide +kernel, by decide +kernel⟩, List.mem_of_getElem? (i := 9) (by decide +kernel), List.mem_of_getElem? (i := 370) (by decide +kernel), List.mem_of_getElem? (i := 371) (by decide +kernel)⟩
def lw_privs_1 : List (MethodName × Nat) := [(⟨"BowSpeeches$Pad", "characterAt", "(I)C"⟩, 2), (⟨"BowSpeeches", "canBeGiven", "()Z"⟩, 7), (⟨"BowSpeeches$Seen", "findGroups", "(LBowSpeeches$Court;I)V"⟩, 8), (⟨"BowSpeeches$Seen", "addGroup", "(I)V"⟩, 8), (⟨"BowSpeeches$Seen", "leaveOutFlourishes", "()V"⟩, 8), (⟨"BowSpeeches$Seen", "keep", "(I)V"⟩, 8), (⟨"BowSpeeches$Seen", "findReason", "()I"⟩, 8), (⟨"BowSpeeches$Seen", "isInOrder", "(I)Z"⟩, 8), (⟨"BowSpeeches", "lookThroughEyesOf", "(I)V"⟩, 7), (⟨"BowSpeeches", "sentencesSeenFor", "(I)I"⟩, 7), (⟨"BowSpeeches", "favourBehindSeen", "(II)I"⟩, 7), (⟨"BowSpeeches", "gain", "(II)I"⟩, 7), (⟨"BowSpeeches", "courtiersMisled", "()I"⟩, 7), (⟨"BowSpeeches", "sumOfAllFavours", "()I"⟩, 7), (⟨"BowSpeeches", "favoursOfCourtier", "(I)I"⟩, 7), (⟨"BowSpeeches", "favoursForGiver", "(I)I"⟩, 7)]
theorem lw_r1 : ∀ q ∈ lw_privs_1, lw_okq q := List.forall_mem_cons.mpr ⟨lw_p0, List.forall_mem_cons.mpr ⟨lw_p1, List.forall_mem_cons.mpr ⟨lw_p2, List.forall_mem_cons.mpr ⟨lw_p3, List.forall_mem_cons.mpr ⟨lw_p4, List.forall_mem_cons.mpr ⟨lw_p5, List.forall_mem_cons.mpr ⟨lw_p6, List.forall_mem_cons.mpr ⟨lw_p7, List.forall_mem_cons.mpr ⟨lw_p8, List.forall_mem_cons.mpr ⟨lw_p9, List.forall_mem_cons.mpr ⟨lw_p10, List.forall_mem_cons.mpr ⟨lw_p11, List.forall_mem_cons.mpr ⟨lw_p12, List.forall_mem_cons.mpr ⟨lw_p13, List.forall_mem_cons.mpr ⟨lw_p14, List.forall_mem_cons.mpr ⟨lw_p15, fun _ h => absurd h List.not_mem_nil⟩⟩⟩⟩⟩⟩⟩⟩⟩⟩⟩⟩⟩⟩⟩⟩
theorem lw_p16 : lw_okq (⟨"BowSpeeches", "sentencesTakenIfGiven", "(I)I"⟩, 7) := ⟨⟨by decide +kernel, by decide +kernel⟩, List.mem_of_getElem? (i := 9) (by decide +kernel), List.mem_of_getElem? (i := 374) (by decide +kernel), List.mem_of_getElem? (i := 375) (by decide +kernel)⟩
theorem lw_p17 : lw_okq (⟨"BowSpeechesModel", "changes", "()V"⟩, 17) := ⟨⟨by decide +kernel, by decide +kernel⟩, List.mem_of_getElem? (i := 433) (by decide +kernel), List.mem_of_getElem? (i := 504) (by decide +kernel), List.mem_of_getElem? (i := 505) (by decide +kernel)⟩
theorem lw_p18 : lw_okq (⟨"BowSpeechesModel", "adds", "(II)V"⟩, 17) := ⟨⟨by decide +kernel, by decide +kernel⟩, List.mem_of_getElem? (i := 433) (by decide +kernel), List.mem_of_getElem? (i := 526) (by decide +kernel), List.mem_of_getElem? (i := 527) (by decide +kernel)⟩
theorem lw_p19 : lw_okq (⟨"BowSpeechesModel", "readsBow", "()Z"⟩, 17) := ⟨⟨by decide +kernel, by decide +kernel⟩, List.mem_of_getElem? (i := 433) (by decide +kernel), List.mem_of_getElem? (i := 543) (by decide +kernel), List.mem_of_getElem? (i := 544) (by decide +kernel)⟩
theorem lw_p20 : lw_okq (⟨"BowSpeechesModel", "isHere", "(II)Z"⟩, 17) := ⟨⟨by decide +kernel, by decide +kernel⟩, List.mem_of_getElem? (i := 433) (by decide +kernel), List.mem_of_getElem? (i := 547) (by decide +kernel), List.mem_of_getElem? (i := 548) (by decide +kernel)⟩
theorem lw_p21 : lw_okq (⟨"BowSpeechesModel", "takesOne", "(I)Z"⟩, 17) := ⟨⟨by decide +kernel, by decide +kernel⟩, List.mem_of_getElem? (i := 433) (by decide +kernel), List.mem_of_getElem? (i := 551) (by decide +kernel), List.mem_of_getElem? (i := 552) (by decide +kernel)⟩
theorem lw_p22 : lw_okq (⟨"BowSpeechesModel", "hushes", "()V"⟩, 17) := ⟨⟨by decide +kernel, by decide +kernel⟩, List.mem_of_getElem? (i := 433) (by decide +kernel), List.mem_of_getElem? (i := 561) (by decide +kernel), List.mem_of_getElem? (i := 562) (by decide +kernel)⟩
theorem lw_p23 : lw_okq (⟨"BowSpeechesModel", "canGive", "()Z"⟩, 17) := ⟨⟨by decide +kernel, by decide +kernel⟩, List.mem_of_getElem? (i := 433) (by decide +kernel), List.mem_of_getElem? (i := 569) (by decide +kernel), List.mem_of_getElem? (i := 570) (by decide +kernel)⟩
theorem lw_p24 : lw_okq (⟨"BowSpeechesModel", "sentences", "(I)I"⟩, 17) := ⟨⟨by decide +kernel, by decide +kernel⟩, List.mem_of_getElem? (i := 433) (by decide +kernel), List.mem_of_getElem? (i := 573) (by decide +kernel), List.mem_of_getElem? (i := 574) (by decide +kernel)⟩
theorem lw_p25 : lw_okq (⟨"BowSpeechesModel", "parts", "(I)V"⟩, 17) := ⟨⟨by decide +kernel, by decide +kernel⟩, List.mem_of_getElem? (i := 433) (by decide +kernel), List.mem_of_getElem? (i := 577) (by decide +kernel), List.mem_of_getElem? (i := 578) (by decide +kernel)⟩
theorem lw_p26 : lw_okq (⟨"BowSpeechesModel", "signSeen", "(II)I"⟩, 17) := ⟨⟨by decide +kernel, by decide +kernel⟩, List.mem_of_getElem? (i := 433) (by decide +kernel), List.mem_of_getElem? (i := 581) (by decide +kernel), List.mem_of_getElem? (i := 582) (by decide +kernel)⟩
theorem lw_p27 : lw_okq (⟨"BowSpeechesModel", "endsSeen", "(II)Z"⟩, 17) := ⟨⟨by decide +kernel, by decide +kernel⟩, List.mem_of_getElem? (i := 433) (by decide +kernel), List.mem_of_getElem? (i := 585) (by decide +kernel), List.mem_of_getElem? (i := 586) (by decide +kernel)⟩
theorem lw_p28 : lw_okq (⟨"BowSpeechesModel", "reason", "()I"⟩, 17) := ⟨⟨by decide +kernel, by decide +kernel⟩, List.mem_of_getElem? (i := 433) (by decide +kernel), List.mem_of_getElem? (i := 592) (by decide +kernel), List.mem_of_getElem? (i := 593) (by decide +kernel)⟩
theorem lw_p29 : lw_okq (⟨"BowSpeechesModel", "isTooLong", "()Z"⟩, 17) := ⟨⟨by decide +kernel, by decide +kernel⟩, List.mem_of_getElem? (i := 433) (by decide +kernel), List.mem_of_getElem? (i := 596) (by decide +kernel), List.mem_of_getElem? (i := 597) (by decide +kernel)⟩
theorem lw_p30 : lw_okq (⟨"BowSpeechesModel", "isRightThree", "(I)Z"⟩, 17) := ⟨⟨by decide +kernel, by decide +kernel⟩, List.mem_of_getElem? (i := 433) (by decide +kernel), List.mem_of_getElem? (i := 600) (by decide +kernel), List.mem_of_getElem? (i := 601) (by decide +kernel)⟩
theorem lw_p31 : lw_okq (⟨"BowSpeechesModel", "gives", "()I"⟩, 17) := ⟨⟨by decide +kernel, by decide +kernel⟩, List.mem_of_getElem? (i := 433) (by decide +kernel), List.mem_of_getElem? (i := 609) (by decide +kernel), List.mem_of_getElem? (i := 610) (by decide +kernel)⟩
def lw_privs_2 : List (MethodName × Nat) := [(⟨"BowSpeeches", "sentencesTakenIfGiven", "(I)I"⟩, 7), (⟨"BowSpeechesModel", "changes", "()V"⟩, 17), (⟨"BowSpeechesModel", "adds", "(II)V"⟩, 17), (⟨"BowSpeechesModel", "readsBow", "()Z"⟩, 17), (⟨"BowSpeechesModel", "isHere", "(II)Z"⟩, 17), (⟨"BowSpeechesModel", "takesOne", "(I)Z"⟩, 17), (⟨"BowSpeechesModel", "hushes", "()V"⟩, 17), (⟨"BowSpeechesModel", "canGive", "()Z"⟩, 17), (⟨"BowSpeechesModel", "sentences", "(I)I"⟩, 17), (⟨"BowSpeechesModel", "parts", "(I)V"⟩, 17), (⟨"BowSpeechesModel", "signSeen", "(II)I"⟩, 17), (⟨"BowSpeechesModel", "endsSeen", "(II)Z"⟩, 17), (⟨"BowSpeechesModel", "reason", "()I"⟩, 17), (⟨"BowSpeechesModel", "isTooLong", "()Z"⟩, 17), (⟨"BowSpeechesModel", "isRightThree", "(I)Z"⟩, 17), (⟨"BowSpeechesModel", "gives", "()I"⟩, 17)]
theorem lw_r2 : ∀ q ∈ lw_privs_2, lw_okq q := List.forall_mem_cons.mpr ⟨lw_p16, List.forall_mem_cons.mpr ⟨lw_p17, List.forall_mem_cons.mpr ⟨lw_p18, List.forall_mem_cons.mpr ⟨lw_p19, List.forall_mem_cons.mpr ⟨lw_p20, List.forall_mem_cons.mpr ⟨lw_p21, List.forall_mem_cons.mpr ⟨lw_p22, List.forall_mem_cons.mpr ⟨lw_p23, List.forall_mem_cons.mpr ⟨lw_p24, List.forall_mem_cons.mpr ⟨lw_p25, List.forall_mem_cons.mpr ⟨lw_p26, List.forall_mem_cons.mpr ⟨lw_p27, List.forall_mem_cons.mpr ⟨lw_p28, List.forall_mem_cons.mpr ⟨lw_p29, List.forall_mem_cons.mpr ⟨lw_p30, List.forall_mem_cons.mpr ⟨lw_p31, fun _ h => absurd h List.not_mem_nil⟩⟩⟩⟩⟩⟩⟩⟩⟩⟩⟩⟩⟩⟩⟩⟩
theorem lw_p32 : lw_okq (⟨"BowSpeechesModel", "takesAll", "(I)I"⟩, 17) := ⟨⟨by decide +kernel, by decide +kernel⟩, List.mem_of_getElem? (i := 433) (by decide +kernel), List.mem_of_getElem? (i := 613) (by decide +kernel), List.mem_of_getElem? (i := 614) (by decide +kernel)⟩
theorem lw_p33 : lw_okq (⟨"BowSpeechesModel", "takes", "(IIII)V"⟩, 17) := ⟨⟨by decide +kernel, by decide +kernel⟩, List.mem_of_getElem? (i := 433) (by decide +kernel), List.mem_of_getElem? (i := 617) (by decide +kernel), List.mem_of_getElem? (i := 618) (by decide +kernel)⟩
theorem lw_p34 : lw_okq (⟨"BowSpeechesModel", "flourishes", "()I"⟩, 17) := ⟨⟨by decide +kernel, by decide +kernel⟩, List.mem_of_getElem? (i := 433) (by decide +kernel), List.mem_of_getElem? (i := 628) (by decide +kernel), List.mem_of_getElem? (i := 629) (by decide +kernel)⟩
theorem lw_p35 : lw_okq (⟨"BowSpeechesModel", "othersSeen", "()I"⟩, 17) := ⟨⟨by decide +kernel, by decide +kernel⟩, List.mem_of_getElem? (i := 433) (by decide +kernel), List.mem_of_getElem? (i := 648) (by decide +kernel), List.mem_of_getElem? (i := 649) (by decide +kernel)⟩
theorem lw_p36 : lw_okq (⟨"BowSpeechesModel", "seesOthers", "(I)Z"⟩, 17) := ⟨⟨by decide +kernel, by decide +kernel⟩, List.mem_of_getElem? (i := 433) (by decide +kernel), List.mem_of_getElem? (i := 652) (by decide +kernel), List.mem_of_getElem? (i := 653) (by decide +kernel)⟩
theorem lw_p37 : lw_okq (⟨"BowSpeechesModel", "favours", "(II)I"⟩, 17) := ⟨⟨by decide +kernel, by decide +kernel⟩, List.mem_of_getElem? (i := 433) (by decide +kernel), List.mem_of_getElem? (i := 656) (by decide +kernel), List.mem_of_getElem? (i := 657) (by decide +kernel)⟩
theorem lw_p38 : lw_okq (⟨"BowSpeechesModel", "wouldTake", "(I)I"⟩, 17) := ⟨⟨by decide +kernel, by decide +kernel⟩, List.mem_of_getElem? (i := 433) (by decide +kernel), List.mem_of_getElem? (i := 664) (by decide +kernel), List.mem_of_getElem? (i := 665) (by decide +kernel)⟩
theorem lw_p39 : lw_okq (⟨"BowSpeechesModel", "keeps", "()V"⟩, 17) := ⟨⟨by decide +kernel, by decide +kernel⟩, List.mem_of_getElem? (i := 433) (by decide +kernel), List.mem_of_getElem? (i := 672) (by decide +kernel), List.mem_of_getElem? (i := 673) (by decide +kernel)⟩
theorem lw_p40 : lw_okq (⟨"BowSpeechesModel", "comesBack", "()V"⟩, 17) := ⟨⟨by decide +kernel, by decide +kernel⟩, List.mem_of_getElem? (i := 433) (by decide +kernel), List.mem_of_getElem? (i := 676) (by decide +kernel), List.mem_of_getElem? (i := 677) (by decide +kernel)⟩
def lw_privs_3 : List (MethodName × Nat) := [(⟨"BowSpeechesModel", "takesAll", "(I)I"⟩, 17), (⟨"BowSpeechesModel", "takes", "(IIII)V"⟩, 17), (⟨"BowSpeechesModel", "flourishes", "()I"⟩, 17), (⟨"BowSpeechesModel", "othersSeen", "()I"⟩, 17), (⟨"BowSpeechesModel", "seesOthers", "(I)Z"⟩, 17), (⟨"BowSpeechesModel", "favours", "(II)I"⟩, 17), (⟨"BowSpeechesModel", "wouldTake", "(I)I"⟩, 17), (⟨"BowSpeechesModel", "keeps", "()V"⟩, 17), (⟨"BowSpeechesModel", "comesBack", "()V"⟩, 17)]
theorem lw_r3 : ∀ q ∈ lw_privs_3, lw_okq q := List.forall_mem_cons.mpr ⟨lw_p32, List.forall_mem_cons.mpr ⟨lw_p33, List.forall_mem_cons.mpr ⟨lw_p34, List.forall_mem_cons.mpr ⟨lw_p35, List.forall_mem_cons.mpr ⟨lw_p36, List.forall_mem_cons.mpr ⟨lw_p37, List.forall_mem_cons.mpr ⟨lw_p38, List.forall_mem_cons.mpr ⟨lw_p39, List.forall_mem_cons.mpr ⟨lw_p40, fun _ h => absurd h List.not_mem_nil⟩⟩⟩⟩⟩⟩⟩⟩⟩
def lw_privs : List (MethodName × Nat) := lw_privs_1 ++ (lw_privs_2 ++ (lw_privs_3))
def lw_tbl : List Cond := k2_sels lw_privs ++ tables_1
theorem lw_privs_ok : ∀ q ∈ lw_privs, lw_okq q := by
  show ∀ q ∈ lw_privs_1 ++ (lw_privs_2 ++ (lw_privs_3)), lw_okq q
  exact List.forall_mem_append.mpr ⟨lw_r1, List.forall_mem_append.mpr ⟨lw_r2, lw_r3⟩⟩

def RX0 : String := "BowSpeeches$Court"
def TX0 : u_T := fun k => match k with
  | 0 => ("BowSpeeches$Court", "settings", "[I", true)
  | 1 => ("BowSpeeches$Court", "eyes", "[I", true)
  | 2 => ("BowSpeeches$Court", "favours", "[I", true)
  | 3 => ("BowSpeeches$Court", "numbers", "[I", true)
  | 4 => ("BowSpeeches$Court", "pauses", "[I", true)
  | 5 => ("BowSpeeches$Court", "bows", "I", false)
  | 6 => ("BowSpeeches$Court", "given", "I", false)
  | _ => ("BowSpeeches$Court", "taken", "I", false)
def tyX0 : Nat → FieldType := fun k => match k with
  | 0 => .array .int
  | 1 => .array .int
  | 2 => .array .int
  | 3 => .array .int
  | 4 => .array .int
  | 5 => .int
  | 6 => .int
  | _ => .int
abbrev wsX00 : List Cond := u_ws RX0 TX0 8
theorem nmX0 : ∀ a, a < 8 → ∀ b, b < 8 → a ≠ b → (TX0 a).2.1 ≠ (TX0 b).2.1 := by decide +kernel
theorem tyX0_ok : ∀ k, k < 8 → parseFieldDescriptor (TX0 k).2.2.1 = some (tyX0 k) := by decide +kernel
abbrev cX0_init : ByteArray := prog_2_method_1_code
def yX0_init : MethodName := ⟨RX0, "<init>", "()V"⟩
abbrev cX0_become : ByteArray := prog_2_method_2_code
def yX0_become : MethodName := ⟨RX0, "become", "(LBowSpeeches$Court;)V"⟩
abbrev cX0_addBow : ByteArray := prog_2_method_3_code
def yX0_addBow : MethodName := ⟨RX0, "addBow", "(II)V"⟩
abbrev cX0_bowAt : ByteArray := prog_2_method_4_code
def yX0_bowAt : MethodName := ⟨RX0, "bowAt", "(I)I"⟩
def RX1 : String := "BowSpeeches$History"
def TX1 : u_T := fun k => match k with
  | 0 => ("BowSpeeches$History", "states", "[LBowSpeeches$Court;", true)
  | 1 => ("BowSpeeches$History", "next", "I", false)
  | _ => ("BowSpeeches$History", "size", "I", false)
def tyX1 : Nat → FieldType := fun k => match k with
  | 0 => .array (.object "BowSpeeches$Court")
  | 1 => .int
  | _ => .int
abbrev wsX10 : List Cond := u_ws RX1 TX1 3
theorem nmX1 : ∀ a, a < 3 → ∀ b, b < 3 → a ≠ b → (TX1 a).2.1 ≠ (TX1 b).2.1 := by decide +kernel
theorem tyX1_ok : ∀ k, k < 3 → parseFieldDescriptor (TX1 k).2.2.1 = some (tyX1 k) := by decide +kernel
abbrev cX1_init : ByteArray := prog_3_method_1_code
def yX1_init : MethodName := ⟨RX1, "<init>", "()V"⟩
abbrev cX1_remember : ByteArray := prog_3_method_2_code
def yX1_remember : MethodName := ⟨RX1, "remember", "(LBowSpeeches$Court;)V"⟩
abbrev cX1_stepBack : ByteArray := prog_3_method_3_code
def yX1_stepBack : MethodName := ⟨RX1, "stepBack", "(LBowSpeeches$Court;)Z"⟩
def RX2 : String := "BowSpeeches$Pad"
def TX2 : u_T := fun k => match k with
  | 0 => ("BowSpeeches$Pad", "characters", "[C", true)
  | _ => ("BowSpeeches$Pad", "length", "I", false)
def tyX2 : Nat → FieldType := fun k => match k with
  | 0 => .array .char
  | _ => .int
abbrev wsX20 : List Cond := u_ws RX2 TX2 2
theorem nmX2 : ∀ a, a < 2 → ∀ b, b < 2 → a ≠ b → (TX2 a).2.1 ≠ (TX2 b).2.1 := by decide +kernel
theorem tyX2_ok : ∀ k, k < 2 → parseFieldDescriptor (TX2 k).2.2.1 = some (tyX2 k) := by decide +kernel
abbrev cX2_init : ByteArray := prog_4_method_1_code
def yX2_init : MethodName := ⟨RX2, "<init>", "()V"⟩
abbrev cX2_append : ByteArray := prog_4_method_2_code
def yX2_append : MethodName := ⟨RX2, "append", "(C)V"⟩
abbrev cX2_characterAt : ByteArray := prog_4_method_3_code
def yX2_characterAt : MethodName := ⟨RX2, "characterAt", "(I)C"⟩
abbrev cX2_firstFault : ByteArray := prog_4_method_4_code
def yX2_firstFault : MethodName := ⟨RX2, "firstFault", "()I"⟩
abbrev cX2_placeBehind : ByteArray := prog_4_method_5_code
def yX2_placeBehind : MethodName := ⟨RX2, "placeBehind", "(IC)I"⟩
abbrev cX2_bowsInText : ByteArray := prog_4_method_6_code
def yX2_bowsInText : MethodName := ⟨RX2, "bowsInText", "()I"⟩
abbrev cX2_addBowsTo : ByteArray := prog_4_method_7_code
def yX2_addBowsTo : MethodName := ⟨RX2, "addBowsTo", "(LBowSpeeches$Court;)V"⟩
def RX3 : String := "BowSpeeches$Seen"
def TX3 : u_T := fun k => match k with
  | 0 => ("BowSpeeches$Seen", "words", "[I", true)
  | 1 => ("BowSpeeches$Seen", "groups", "I", false)
  | 2 => ("BowSpeeches$Seen", "left", "[I", true)
  | 3 => ("BowSpeeches$Seen", "kept", "I", false)
  | 4 => ("BowSpeeches$Seen", "flourishes", "I", false)
  | 5 => ("BowSpeeches$Seen", "longGroups", "I", false)
  | 6 => ("BowSpeeches$Seen", "reason", "I", false)
  | _ => ("BowSpeeches$Seen", "sentences", "I", false)
def tyX3 : Nat → FieldType := fun k => match k with
  | 0 => .array .int
  | 1 => .int
  | 2 => .array .int
  | 3 => .int
  | 4 => .int
  | 5 => .int
  | 6 => .int
  | _ => .int
abbrev wsX30 : List Cond := u_ws RX3 TX3 8
theorem nmX3 : ∀ a, a < 8 → ∀ b, b < 8 → a ≠ b → (TX3 a).2.1 ≠ (TX3 b).2.1 := by decide +kernel
theorem tyX3_ok : ∀ k, k < 8 → parseFieldDescriptor (TX3 k).2.2.1 = some (tyX3 k) := by decide +kernel
abbrev cX3_init : ByteArray := prog_5_method_1_code
def yX3_init : MethodName := ⟨RX3, "<init>", "()V"⟩
abbrev cX3_look : ByteArray := prog_5_method_2_code
def yX3_look : MethodName := ⟨RX3, "look", "(LBowSpeeches$Court;I)V"⟩
abbrev cX3_findGroups : ByteArray := prog_5_method_3_code
def yX3_findGroups : MethodName := ⟨RX3, "findGroups", "(LBowSpeeches$Court;I)V"⟩
abbrev cX3_seenNumber : ByteArray := prog_5_method_4_code
def yX3_seenNumber : MethodName := ⟨RX3, "seenNumber", "(II)I"⟩
abbrev cX3_seenAsBreak : ByteArray := prog_5_method_5_code
def yX3_seenAsBreak : MethodName := ⟨RX3, "seenAsBreak", "(III)Z"⟩
abbrev cX3_wordOf : ByteArray := prog_5_method_6_code
def yX3_wordOf : MethodName := ⟨RX3, "wordOf", "(II)I"⟩
abbrev cX3_addGroup : ByteArray := prog_5_method_7_code
def yX3_addGroup : MethodName := ⟨RX3, "addGroup", "(I)V"⟩
abbrev cX3_leaveOutFlourishes : ByteArray := prog_5_method_8_code
def yX3_leaveOutFlourishes : MethodName := ⟨RX3, "leaveOutFlourishes", "()V"⟩
abbrev cX3_keep : ByteArray := prog_5_method_9_code
def yX3_keep : MethodName := ⟨RX3, "keep", "(I)V"⟩
abbrev cX3_findReason : ByteArray := prog_5_method_10_code
def yX3_findReason : MethodName := ⟨RX3, "findReason", "()I"⟩
abbrev cX3_isInOrder : ByteArray := prog_5_method_11_code
def yX3_isInOrder : MethodName := ⟨RX3, "isInOrder", "(I)Z"⟩
abbrev cX3_part : ByteArray := prog_5_method_12_code
def yX3_part : MethodName := ⟨RX3, "part", "(II)I"⟩
abbrev cX3_isKind : ByteArray := prog_5_method_13_code
def yX3_isKind : MethodName := ⟨RX3, "isKind", "(I)Z"⟩
abbrev cX3_saysTheSameAs : ByteArray := prog_5_method_14_code
def yX3_saysTheSameAs : MethodName := ⟨RX3, "saysTheSameAs", "(LBowSpeeches$Seen;)Z"⟩
def RX4 : String := "BowSpeeches"
def TX4 : u_T := fun k => match k with
  | 0 => ("BowSpeeches", "court", "LBowSpeeches$Court;", true)
  | 1 => ("BowSpeeches", "pad", "LBowSpeeches$Pad;", true)
  | 2 => ("BowSpeeches", "history", "LBowSpeeches$History;", true)
  | 3 => ("BowSpeeches", "slots", "[LBowSpeeches$Court;", true)
  | 4 => ("BowSpeeches", "seen", "LBowSpeeches$Seen;", true)
  | 5 => ("BowSpeeches", "plain", "LBowSpeeches$Seen;", true)
  | _ => ("BowSpeeches", "trial", "LBowSpeeches$Court;", true)
def tyX4 : Nat → FieldType := fun k => match k with
  | 0 => .object "BowSpeeches$Court"
  | 1 => .object "BowSpeeches$Pad"
  | 2 => .object "BowSpeeches$History"
  | 3 => .array (.object "BowSpeeches$Court")
  | 4 => .object "BowSpeeches$Seen"
  | 5 => .object "BowSpeeches$Seen"
  | _ => .object "BowSpeeches$Court"
abbrev wsX40 : List Cond := u_ws RX4 TX4 7
theorem nmX4 : ∀ a, a < 7 → ∀ b, b < 7 → a ≠ b → (TX4 a).2.1 ≠ (TX4 b).2.1 := by decide +kernel
theorem tyX4_ok : ∀ k, k < 7 → parseFieldDescriptor (TX4 k).2.2.1 = some (tyX4 k) := by decide +kernel
abbrev cX4_init : ByteArray := prog_1_method_1_code
def yX4_init : MethodName := ⟨RX4, "<init>", "()V"⟩
abbrev cX4_set : ByteArray := prog_1_method_2_code
def yX4_set : MethodName := ⟨RX4, "set", "(II)I"⟩
abbrev cX4_eyes : ByteArray := prog_1_method_3_code
def yX4_eyes : MethodName := ⟨RX4, "eyes", "(II)I"⟩
abbrev cX4_bow : ByteArray := prog_1_method_4_code
def yX4_bow : MethodName := ⟨RX4, "bow", "(III)I"⟩
abbrev cX4_takeBack : ByteArray := prog_1_method_5_code
def yX4_takeBack : MethodName := ⟨RX4, "takeBack", "()I"⟩
abbrev cX4_read : ByteArray := prog_1_method_6_code
def yX4_read : MethodName := ⟨RX4, "read", "()I"⟩
abbrev cX4_hush : ByteArray := prog_1_method_7_code
def yX4_hush : MethodName := ⟨RX4, "hush", "()I"⟩
abbrev cX4_give : ByteArray := prog_1_method_8_code
def yX4_give : MethodName := ⟨RX4, "give", "()I"⟩
abbrev cX4_speech : ByteArray := prog_1_method_9_code
def yX4_speech : MethodName := ⟨RX4, "speech", "(II)I"⟩
abbrev cX4_word : ByteArray := prog_1_method_10_code
def yX4_word : MethodName := ⟨RX4, "word", "(II)I"⟩
abbrev cX4_sentence : ByteArray := prog_1_method_11_code
def yX4_sentence : MethodName := ⟨RX4, "sentence", "(III)I"⟩
abbrev cX4_favour : ByteArray := prog_1_method_12_code
def yX4_favour : MethodName := ⟨RX4, "favour", "(II)I"⟩
abbrev cX4_count : ByteArray := prog_1_method_13_code
def yX4_count : MethodName := ⟨RX4, "count", "(I)I"⟩
abbrev cX4_courtier : ByteArray := prog_1_method_14_code
def yX4_courtier : MethodName := ⟨RX4, "courtier", "(II)I"⟩
abbrev cX4_ifGiven : ByteArray := prog_1_method_15_code
def yX4_ifGiven : MethodName := ⟨RX4, "ifGiven", "(II)I"⟩
abbrev cX4_bestBow : ByteArray := prog_1_method_16_code
def yX4_bestBow : MethodName := ⟨RX4, "bestBow", "()I"⟩
abbrev cX4_darling : ByteArray := prog_1_method_17_code
def yX4_darling : MethodName := ⟨RX4, "darling", "()I"⟩
abbrev cX4_put : ByteArray := prog_1_method_18_code
def yX4_put : MethodName := ⟨RX4, "put", "(J)I"⟩
abbrev cX4_wipe : ByteArray := prog_1_method_19_code
def yX4_wipe : MethodName := ⟨RX4, "wipe", "()I"⟩
abbrev cX4_fault : ByteArray := prog_1_method_20_code
def yX4_fault : MethodName := ⟨RX4, "fault", "()I"⟩
abbrev cX4_undo : ByteArray := prog_1_method_21_code
def yX4_undo : MethodName := ⟨RX4, "undo", "()I"⟩
abbrev cX4_save : ByteArray := prog_1_method_22_code
def yX4_save : MethodName := ⟨RX4, "save", "(I)I"⟩
abbrev cX4_restore : ByteArray := prog_1_method_23_code
def yX4_restore : MethodName := ⟨RX4, "restore", "(I)I"⟩
abbrev cX4_isCourtier : ByteArray := prog_1_method_24_code
def yX4_isCourtier : MethodName := ⟨RX4, "isCourtier", "(I)Z"⟩
abbrev cX4_areEyes : ByteArray := prog_1_method_25_code
def yX4_areEyes : MethodName := ⟨RX4, "areEyes", "(I)Z"⟩
abbrev cX4_isSlot : ByteArray := prog_1_method_26_code
def yX4_isSlot : MethodName := ⟨RX4, "isSlot", "(I)Z"⟩
abbrev cX4_codesIn : ByteArray := prog_1_method_27_code
def yX4_codesIn : MethodName := ⟨RX4, "codesIn", "(J)I"⟩
abbrev cX4_codeAt : ByteArray := prog_1_method_28_code
def yX4_codeAt : MethodName := ⟨RX4, "codeAt", "(JI)I"⟩
abbrev cX4_bowNumber : ByteArray := prog_1_method_29_code
def yX4_bowNumber : MethodName := ⟨RX4, "bowNumber", "(II)I"⟩
abbrev cX4_isNameOfCourtier : ByteArray := prog_1_method_30_code
def yX4_isNameOfCourtier : MethodName := ⟨RX4, "isNameOfCourtier", "(I)Z"⟩
abbrev cX4_isDeed : ByteArray := prog_1_method_31_code
def yX4_isDeed : MethodName := ⟨RX4, "isDeed", "(I)Z"⟩
abbrev cX4_isFlourish : ByteArray := prog_1_method_32_code
def yX4_isFlourish : MethodName := ⟨RX4, "isFlourish", "(I)Z"⟩
abbrev cX4_at : ByteArray := prog_1_method_33_code
def yX4_at : MethodName := ⟨RX4, "at", "([II)I"⟩
abbrev cX4_copyRow : ByteArray := prog_1_method_34_code
def yX4_copyRow : MethodName := ⟨RX4, "copyRow", "([I[I)V"⟩
abbrev cX4_copyOf : ByteArray := prog_1_method_35_code
def yX4_copyOf : MethodName := ⟨RX4, "copyOf", "(LBowSpeeches$Court;LBowSpeeches$Court;)LBowSpeeches$Court;"⟩
abbrev cX4_favourIndex : ByteArray := prog_1_method_36_code
def yX4_favourIndex : MethodName := ⟨RX4, "favourIndex", "(II)I"⟩
abbrev cX4_favoursForGiver : ByteArray := prog_1_method_37_code
def yX4_favoursForGiver : MethodName := ⟨RX4, "favoursForGiver", "(I)I"⟩
abbrev cX4_favoursOfCourtier : ByteArray := prog_1_method_38_code
def yX4_favoursOfCourtier : MethodName := ⟨RX4, "favoursOfCourtier", "(I)I"⟩
abbrev cX4_sumOfAllFavours : ByteArray := prog_1_method_39_code
def yX4_sumOfAllFavours : MethodName := ⟨RX4, "sumOfAllFavours", "()I"⟩
abbrev cX4_canBeGiven : ByteArray := prog_1_method_40_code
def yX4_canBeGiven : MethodName := ⟨RX4, "canBeGiven", "()Z"⟩
abbrev cX4_sentencesTakenIfGiven : ByteArray := prog_1_method_41_code
def yX4_sentencesTakenIfGiven : MethodName := ⟨RX4, "sentencesTakenIfGiven", "(I)I"⟩
abbrev cX4_lookThroughEyesOf : ByteArray := prog_1_method_42_code
def yX4_lookThroughEyesOf : MethodName := ⟨RX4, "lookThroughEyesOf", "(I)V"⟩
abbrev cX4_sentencesSeenFor : ByteArray := prog_1_method_43_code
def yX4_sentencesSeenFor : MethodName := ⟨RX4, "sentencesSeenFor", "(I)I"⟩
abbrev cX4_favourBehindSeen : ByteArray := prog_1_method_44_code
def yX4_favourBehindSeen : MethodName := ⟨RX4, "favourBehindSeen", "(II)I"⟩
abbrev cX4_gain : ByteArray := prog_1_method_45_code
def yX4_gain : MethodName := ⟨RX4, "gain", "(II)I"⟩
abbrev cX4_courtiersMisled : ByteArray := prog_1_method_46_code
def yX4_courtiersMisled : MethodName := ⟨RX4, "courtiersMisled", "()I"⟩
def RX5 : String := "BowSpeechesModel"
def TX5 : u_T := fun k => match k with
  | 0 => ("BowSpeechesModel", "all", "[I", true)
  | 1 => ("BowSpeechesModel", "kept", "[I", true)
  | 2 => ("BowSpeechesModel", "history", "[I", true)
  | 3 => ("BowSpeechesModel", "historyLong", "I", false)
  | 4 => ("BowSpeechesModel", "slots", "[I", true)
  | 5 => ("BowSpeechesModel", "isSaved", "[I", true)
  | 6 => ("BowSpeechesModel", "words", "[I", true)
  | 7 => ("BowSpeechesModel", "groups", "I", false)
  | 8 => ("BowSpeechesModel", "left", "[I", true)
  | 9 => ("BowSpeechesModel", "leftLong", "I", false)
  | 10 => ("BowSpeechesModel", "seen", "[I", true)
  | 11 => ("BowSpeechesModel", "text", "[I", true)
  | 12 => ("BowSpeechesModel", "textLong", "I", false)
  | 13 => ("BowSpeechesModel", "spot", "I", false)
  | 14 => ("BowSpeechesModel", "signs", "[I", true)
  | 15 => ("BowSpeechesModel", "pauses", "[I", true)
  | _ => ("BowSpeechesModel", "read", "I", false)
def tyX5 : Nat → FieldType := fun k => match k with
  | 0 => .array .int
  | 1 => .array .int
  | 2 => .array .int
  | 3 => .int
  | 4 => .array .int
  | 5 => .array .int
  | 6 => .array .int
  | 7 => .int
  | 8 => .array .int
  | 9 => .int
  | 10 => .array .int
  | 11 => .array .int
  | 12 => .int
  | 13 => .int
  | 14 => .array .int
  | 15 => .array .int
  | _ => .int
abbrev wsX50 : List Cond := u_ws RX5 TX5 17
theorem nmX5 : ∀ a, a < 17 → ∀ b, b < 17 → a ≠ b → (TX5 a).2.1 ≠ (TX5 b).2.1 := by decide +kernel
theorem tyX5_ok : ∀ k, k < 17 → parseFieldDescriptor (TX5 k).2.2.1 = some (tyX5 k) := by decide +kernel
abbrev cX5_init : ByteArray := prog_7_method_1_code
def yX5_init : MethodName := ⟨RX5, "<init>", "()V"⟩
abbrev cX5_in : ByteArray := prog_7_method_3_code
def yX5_in : MethodName := ⟨RX5, "in", "(JJJ)Z"⟩
abbrev cX5_changes : ByteArray := prog_7_method_4_code
def yX5_changes : MethodName := ⟨RX5, "changes", "()V"⟩
abbrev cX5_keeps : ByteArray := prog_7_method_5_code
def yX5_keeps : MethodName := ⟨RX5, "keeps", "()V"⟩
abbrev cX5_comesBack : ByteArray := prog_7_method_6_code
def yX5_comesBack : MethodName := ⟨RX5, "comesBack", "()V"⟩
abbrev cX5_areEyes : ByteArray := prog_7_method_7_code
def yX5_areEyes : MethodName := ⟨RX5, "areEyes", "(I)Z"⟩
abbrev cX5_isCourtier : ByteArray := prog_7_method_8_code
def yX5_isCourtier : MethodName := ⟨RX5, "isCourtier", "(I)Z"⟩
abbrev cX5_signSeen : ByteArray := prog_7_method_9_code
def yX5_signSeen : MethodName := ⟨RX5, "signSeen", "(II)I"⟩
abbrev cX5_endsSeen : ByteArray := prog_7_method_10_code
def yX5_endsSeen : MethodName := ⟨RX5, "endsSeen", "(II)Z"⟩
abbrev cX5_isFlourish : ByteArray := prog_7_method_11_code
def yX5_isFlourish : MethodName := ⟨RX5, "isFlourish", "(I)Z"⟩
abbrev cX5_isDeed : ByteArray := prog_7_method_12_code
def yX5_isDeed : MethodName := ⟨RX5, "isDeed", "(I)Z"⟩
abbrev cX5_parts : ByteArray := prog_7_method_13_code
def yX5_parts : MethodName := ⟨RX5, "parts", "(I)V"⟩
abbrev cX5_isTooLong : ByteArray := prog_7_method_14_code
def yX5_isTooLong : MethodName := ⟨RX5, "isTooLong", "()Z"⟩
abbrev cX5_isRightThree : ByteArray := prog_7_method_15_code
def yX5_isRightThree : MethodName := ⟨RX5, "isRightThree", "(I)Z"⟩
abbrev cX5_reason : ByteArray := prog_7_method_16_code
def yX5_reason : MethodName := ⟨RX5, "reason", "()I"⟩
abbrev cX5_sentences : ByteArray := prog_7_method_17_code
def yX5_sentences : MethodName := ⟨RX5, "sentences", "(I)I"⟩
abbrev cX5_at : ByteArray := prog_7_method_18_code
def yX5_at : MethodName := ⟨RX5, "at", "(II)I"⟩
abbrev cX5_takes : ByteArray := prog_7_method_19_code
def yX5_takes : MethodName := ⟨RX5, "takes", "(IIII)V"⟩
abbrev cX5_takesAll : ByteArray := prog_7_method_20_code
def yX5_takesAll : MethodName := ⟨RX5, "takesAll", "(I)I"⟩
abbrev cX5_hushes : ByteArray := prog_7_method_21_code
def yX5_hushes : MethodName := ⟨RX5, "hushes", "()V"⟩
abbrev cX5_gives : ByteArray := prog_7_method_22_code
def yX5_gives : MethodName := ⟨RX5, "gives", "()I"⟩
abbrev cX5_canGive : ByteArray := prog_7_method_23_code
def yX5_canGive : MethodName := ⟨RX5, "canGive", "()Z"⟩
abbrev cX5_isSetting : ByteArray := prog_7_method_24_code
def yX5_isSetting : MethodName := ⟨RX5, "isSetting", "(II)Z"⟩
abbrev cX5_set : ByteArray := prog_7_method_25_code
def yX5_set : MethodName := ⟨RX5, "set", "(II)I"⟩
abbrev cX5_eyes : ByteArray := prog_7_method_26_code
def yX5_eyes : MethodName := ⟨RX5, "eyes", "(II)I"⟩
abbrev cX5_adds : ByteArray := prog_7_method_27_code
def yX5_adds : MethodName := ⟨RX5, "adds", "(II)V"⟩
abbrev cX5_bow : ByteArray := prog_7_method_28_code
def yX5_bow : MethodName := ⟨RX5, "bow", "(III)I"⟩
abbrev cX5_takeBack : ByteArray := prog_7_method_29_code
def yX5_takeBack : MethodName := ⟨RX5, "takeBack", "()I"⟩
abbrev cX5_read : ByteArray := prog_7_method_30_code
def yX5_read : MethodName := ⟨RX5, "read", "()I"⟩
abbrev cX5_hush : ByteArray := prog_7_method_31_code
def yX5_hush : MethodName := ⟨RX5, "hush", "()I"⟩
abbrev cX5_give : ByteArray := prog_7_method_32_code
def yX5_give : MethodName := ⟨RX5, "give", "()I"⟩
abbrev cX5_flourishes : ByteArray := prog_7_method_33_code
def yX5_flourishes : MethodName := ⟨RX5, "flourishes", "()I"⟩
abbrev cX5_speech : ByteArray := prog_7_method_34_code
def yX5_speech : MethodName := ⟨RX5, "speech", "(II)I"⟩
abbrev cX5_word : ByteArray := prog_7_method_35_code
def yX5_word : MethodName := ⟨RX5, "word", "(II)I"⟩
abbrev cX5_sentence : ByteArray := prog_7_method_36_code
def yX5_sentence : MethodName := ⟨RX5, "sentence", "(III)I"⟩
abbrev cX5_favour : ByteArray := prog_7_method_37_code
def yX5_favour : MethodName := ⟨RX5, "favour", "(II)I"⟩
abbrev cX5_seesOthers : ByteArray := prog_7_method_38_code
def yX5_seesOthers : MethodName := ⟨RX5, "seesOthers", "(I)Z"⟩
abbrev cX5_favours : ByteArray := prog_7_method_39_code
def yX5_favours : MethodName := ⟨RX5, "favours", "(II)I"⟩
abbrev cX5_othersSeen : ByteArray := prog_7_method_40_code
def yX5_othersSeen : MethodName := ⟨RX5, "othersSeen", "()I"⟩
abbrev cX5_count : ByteArray := prog_7_method_41_code
def yX5_count : MethodName := ⟨RX5, "count", "(I)I"⟩
abbrev cX5_wouldTake : ByteArray := prog_7_method_42_code
def yX5_wouldTake : MethodName := ⟨RX5, "wouldTake", "(I)I"⟩
abbrev cX5_courtier : ByteArray := prog_7_method_43_code
def yX5_courtier : MethodName := ⟨RX5, "courtier", "(II)I"⟩
abbrev cX5_ifGiven : ByteArray := prog_7_method_44_code
def yX5_ifGiven : MethodName := ⟨RX5, "ifGiven", "(II)I"⟩
abbrev cX5_bestBow : ByteArray := prog_7_method_45_code
def yX5_bestBow : MethodName := ⟨RX5, "bestBow", "()I"⟩
abbrev cX5_darling : ByteArray := prog_7_method_46_code
def yX5_darling : MethodName := ⟨RX5, "darling", "()I"⟩
abbrev cX5_charactersOf : ByteArray := prog_7_method_47_code
def yX5_charactersOf : MethodName := ⟨RX5, "charactersOf", "(J)I"⟩
abbrev cX5_put : ByteArray := prog_7_method_48_code
def yX5_put : MethodName := ⟨RX5, "put", "(J)I"⟩
abbrev cX5_wipe : ByteArray := prog_7_method_49_code
def yX5_wipe : MethodName := ⟨RX5, "wipe", "()I"⟩
abbrev cX5_isHere : ByteArray := prog_7_method_50_code
def yX5_isHere : MethodName := ⟨RX5, "isHere", "(II)Z"⟩
abbrev cX5_takesOne : ByteArray := prog_7_method_51_code
def yX5_takesOne : MethodName := ⟨RX5, "takesOne", "(I)Z"⟩
abbrev cX5_readsBow : ByteArray := prog_7_method_52_code
def yX5_readsBow : MethodName := ⟨RX5, "readsBow", "()Z"⟩
abbrev cX5_fault : ByteArray := prog_7_method_53_code
def yX5_fault : MethodName := ⟨RX5, "fault", "()I"⟩
abbrev cX5_undo : ByteArray := prog_7_method_54_code
def yX5_undo : MethodName := ⟨RX5, "undo", "()I"⟩
abbrev cX5_isSlot : ByteArray := prog_7_method_55_code
def yX5_isSlot : MethodName := ⟨RX5, "isSlot", "(I)Z"⟩
abbrev cX5_save : ByteArray := prog_7_method_56_code
def yX5_save : MethodName := ⟨RX5, "save", "(I)I"⟩
abbrev cX5_restore : ByteArray := prog_7_method_57_code
def yX5_restore : MethodName := ⟨RX5, "restore", "(I)I"⟩
def RJ9 : String := "java/lang/Math"
def TJ9 : u_T := fun k => match k with
  | _ => ("", "", "", false)
def tyJ9 : Nat → FieldType := fun k => match k with
  | _ => .int
abbrev wsJ90 : List Cond := u_ws RJ9 TJ9 0
theorem nmJ9 : ∀ a, a < 0 → ∀ b, b < 0 → a ≠ b → (TJ9 a).2.1 ≠ (TJ9 b).2.1 := by decide +kernel
theorem tyJ9_ok : ∀ k, k < 0 → parseFieldDescriptor (TJ9 k).2.2.1 = some (tyJ9 k) := by decide +kernel
abbrev cJ9_max_7cf53 : ByteArray := prog_8_method_65_code
def yJ9_max_7cf53 : MethodName := ⟨RJ9, "max", "(II)I"⟩
abbrev cJ9_min_7cf53 : ByteArray := prog_8_method_69_code
def yJ9_min_7cf53 : MethodName := ⟨RJ9, "min", "(II)I"⟩
def RL : String := "BowSpeechesLaw"
abbrev cL_law : ByteArray := code
def yL_law : MethodName := ⟨RL, "law", "([I)Z"⟩
abbrev vwCl : List vw_C := [(RX0, TX0, 8), (RX1, TX1, 3), (RX2, TX2, 2), (RX3, TX3, 8), (RX4, TX4, 7), (RX5, TX5, 17)]

theorem inX0 : ∀ w ∈ wsX00, w ∈ lw_tbl := by decide +kernel
theorem inX1 : ∀ w ∈ wsX10, w ∈ lw_tbl := by decide +kernel
theorem inX2 : ∀ w ∈ wsX20, w ∈ lw_tbl := by decide +kernel
theorem inX3 : ∀ w ∈ wsX30, w ∈ lw_tbl := by decide +kernel
theorem inX4 : ∀ w ∈ wsX40, w ∈ lw_tbl := by decide +kernel
theorem inX5 : ∀ w ∈ wsX50, w ∈ lw_tbl := by decide +kernel
end
section
theorem dX0_init_0 : decode cX0_init 0 = .ok (.aload_n 0, 1) := by decide +kernel
theorem dX0_init_1 : decode cX0_init 1 = .ok (.invokespecial 3, 3) := by decide +kernel
theorem dX0_init_4 : decode cX0_init 4 = .ok (.aload_n 0, 1) := by decide +kernel
theorem dX0_init_5 : decode cX0_init 5 = .ok (.iconst 3, 1) := by decide +kernel
theorem dX0_init_6 : decode cX0_init 6 = .ok (.newarray .int, 2) := by decide +kernel
theorem dX0_init_8 : decode cX0_init 8 = .ok (.dup, 1) := by decide +kernel
theorem dX0_init_9 : decode cX0_init 9 = .ok (.iconst 0, 1) := by decide +kernel
theorem dX0_init_10 : decode cX0_init 10 = .ok (.iconst 3, 1) := by decide +kernel
theorem dX0_init_11 : decode cX0_init 11 = .ok (.iastore, 1) := by decide +kernel
theorem dX0_init_12 : decode cX0_init 12 = .ok (.dup, 1) := by decide +kernel
theorem dX0_init_13 : decode cX0_init 13 = .ok (.iconst 1, 1) := by decide +kernel
theorem dX0_init_14 : decode cX0_init 14 = .ok (.iconst 2, 1) := by decide +kernel
theorem dX0_init_15 : decode cX0_init 15 = .ok (.iastore, 1) := by decide +kernel
theorem dX0_init_16 : decode cX0_init 16 = .ok (.dup, 1) := by decide +kernel
theorem dX0_init_17 : decode cX0_init 17 = .ok (.iconst 2, 1) := by decide +kernel
theorem dX0_init_18 : decode cX0_init 18 = .ok (.iconst 3, 1) := by decide +kernel
theorem dX0_init_19 : decode cX0_init 19 = .ok (.iastore, 1) := by decide +kernel
theorem dX0_init_20 : decode cX0_init 20 = .ok (.putfield 9, 3) := by decide +kernel
theorem dX0_init_23 : decode cX0_init 23 = .ok (.aload_n 0, 1) := by decide +kernel
theorem dX0_init_24 : decode cX0_init 24 = .ok (.bipush 6, 2) := by decide +kernel
theorem dX0_init_26 : decode cX0_init 26 = .ok (.newarray .int, 2) := by decide +kernel
theorem dX0_init_28 : decode cX0_init 28 = .ok (.putfield 15, 3) := by decide +kernel
theorem dX0_init_31 : decode cX0_init 31 = .ok (.aload_n 0, 1) := by decide +kernel
theorem dX0_init_32 : decode cX0_init 32 = .ok (.bipush 36, 2) := by decide +kernel
theorem dX0_init_34 : decode cX0_init 34 = .ok (.newarray .int, 2) := by decide +kernel
theorem dX0_init_36 : decode cX0_init 36 = .ok (.putfield 18, 3) := by decide +kernel
theorem dX0_init_39 : decode cX0_init 39 = .ok (.aload_n 0, 1) := by decide +kernel
theorem dX0_init_40 : decode cX0_init 40 = .ok (.bipush 24, 2) := by decide +kernel
theorem dX0_init_42 : decode cX0_init 42 = .ok (.newarray .int, 2) := by decide +kernel
theorem dX0_init_44 : decode cX0_init 44 = .ok (.putfield 21, 3) := by decide +kernel
theorem dX0_init_47 : decode cX0_init 47 = .ok (.aload_n 0, 1) := by decide +kernel
theorem dX0_init_48 : decode cX0_init 48 = .ok (.bipush 24, 2) := by decide +kernel
theorem dX0_init_50 : decode cX0_init 50 = .ok (.newarray .int, 2) := by decide +kernel
theorem dX0_init_52 : decode cX0_init 52 = .ok (.putfield 24, 3) := by decide +kernel
theorem dX0_init_55 : decode cX0_init 55 = .ok (.aload_n 0, 1) := by decide +kernel
theorem dX0_init_56 : decode cX0_init 56 = .ok (.iconst 0, 1) := by decide +kernel
theorem dX0_init_57 : decode cX0_init 57 = .ok (.putfield 27, 3) := by decide +kernel
theorem dX0_init_60 : decode cX0_init 60 = .ok (.aload_n 0, 1) := by decide +kernel
theorem dX0_init_61 : decode cX0_init 61 = .ok (.iconst 0, 1) := by decide +kernel
theorem dX0_init_62 : decode cX0_init 62 = .ok (.putfield 31, 3) := by decide +kernel
theorem dX0_init_65 : decode cX0_init 65 = .ok (.aload_n 0, 1) := by decide +kernel
theorem dX0_init_66 : decode cX0_init 66 = .ok (.iconst 0, 1) := by decide +kernel
theorem dX0_init_67 : decode cX0_init 67 = .ok (.putfield 34, 3) := by decide +kernel
theorem dX0_init_70 : decode cX0_init 70 = .ok (.return_, 1) := by decide +kernel
theorem dX0_become_0 : decode cX0_become 0 = .ok (.aload_n 1, 1) := by decide +kernel
theorem dX0_become_1 : decode cX0_become 1 = .ok (.getfield 9, 3) := by decide +kernel
theorem dX0_become_4 : decode cX0_become 4 = .ok (.aload_n 0, 1) := by decide +kernel
theorem dX0_become_5 : decode cX0_become 5 = .ok (.getfield 9, 3) := by decide +kernel
theorem dX0_become_8 : decode cX0_become 8 = .ok (.invokestatic 37, 3) := by decide +kernel
theorem dX0_become_11 : decode cX0_become 11 = .ok (.aload_n 1, 1) := by decide +kernel
theorem dX0_become_12 : decode cX0_become 12 = .ok (.getfield 15, 3) := by decide +kernel
theorem dX0_become_15 : decode cX0_become 15 = .ok (.aload_n 0, 1) := by decide +kernel
theorem dX0_become_16 : decode cX0_become 16 = .ok (.getfield 15, 3) := by decide +kernel
theorem dX0_become_19 : decode cX0_become 19 = .ok (.invokestatic 37, 3) := by decide +kernel
theorem dX0_become_22 : decode cX0_become 22 = .ok (.aload_n 1, 1) := by decide +kernel
theorem dX0_become_23 : decode cX0_become 23 = .ok (.getfield 18, 3) := by decide +kernel
theorem dX0_become_26 : decode cX0_become 26 = .ok (.aload_n 0, 1) := by decide +kernel
theorem dX0_become_27 : decode cX0_become 27 = .ok (.getfield 18, 3) := by decide +kernel
theorem dX0_become_30 : decode cX0_become 30 = .ok (.invokestatic 37, 3) := by decide +kernel
theorem dX0_become_33 : decode cX0_become 33 = .ok (.aload_n 1, 1) := by decide +kernel
theorem dX0_become_34 : decode cX0_become 34 = .ok (.getfield 21, 3) := by decide +kernel
theorem dX0_become_37 : decode cX0_become 37 = .ok (.aload_n 0, 1) := by decide +kernel
theorem dX0_become_38 : decode cX0_become 38 = .ok (.getfield 21, 3) := by decide +kernel
theorem dX0_become_41 : decode cX0_become 41 = .ok (.invokestatic 37, 3) := by decide +kernel
theorem dX0_become_44 : decode cX0_become 44 = .ok (.aload_n 1, 1) := by decide +kernel
theorem dX0_become_45 : decode cX0_become 45 = .ok (.getfield 24, 3) := by decide +kernel
theorem dX0_become_48 : decode cX0_become 48 = .ok (.aload_n 0, 1) := by decide +kernel
theorem dX0_become_49 : decode cX0_become 49 = .ok (.getfield 24, 3) := by decide +kernel
theorem dX0_become_52 : decode cX0_become 52 = .ok (.invokestatic 37, 3) := by decide +kernel
theorem dX0_become_55 : decode cX0_become 55 = .ok (.aload_n 0, 1) := by decide +kernel
theorem dX0_become_56 : decode cX0_become 56 = .ok (.aload_n 1, 1) := by decide +kernel
theorem dX0_become_57 : decode cX0_become 57 = .ok (.getfield 27, 3) := by decide +kernel
theorem dX0_become_60 : decode cX0_become 60 = .ok (.putfield 27, 3) := by decide +kernel
theorem dX0_become_63 : decode cX0_become 63 = .ok (.aload_n 0, 1) := by decide +kernel
theorem dX0_become_64 : decode cX0_become 64 = .ok (.aload_n 1, 1) := by decide +kernel
theorem dX0_become_65 : decode cX0_become 65 = .ok (.getfield 31, 3) := by decide +kernel
theorem dX0_become_68 : decode cX0_become 68 = .ok (.putfield 31, 3) := by decide +kernel
theorem dX0_become_71 : decode cX0_become 71 = .ok (.aload_n 0, 1) := by decide +kernel
theorem dX0_become_72 : decode cX0_become 72 = .ok (.aload_n 1, 1) := by decide +kernel
theorem dX0_become_73 : decode cX0_become 73 = .ok (.getfield 34, 3) := by decide +kernel
theorem dX0_become_76 : decode cX0_become 76 = .ok (.putfield 34, 3) := by decide +kernel
theorem dX0_become_79 : decode cX0_become 79 = .ok (.return_, 1) := by decide +kernel
theorem dX0_addBow_0 : decode cX0_addBow 0 = .ok (.aload_n 0, 1) := by decide +kernel
theorem dX0_addBow_1 : decode cX0_addBow 1 = .ok (.getfield 27, 3) := by decide +kernel
theorem dX0_addBow_4 : decode cX0_addBow 4 = .ok (.ifCond .lt 42, 3) := by decide +kernel
theorem dX0_addBow_7 : decode cX0_addBow 7 = .ok (.aload_n 0, 1) := by decide +kernel
theorem dX0_addBow_8 : decode cX0_addBow 8 = .ok (.getfield 27, 3) := by decide +kernel
theorem dX0_addBow_11 : decode cX0_addBow 11 = .ok (.bipush 24, 2) := by decide +kernel
theorem dX0_addBow_13 : decode cX0_addBow 13 = .ok (.if_icmp .ge 33, 3) := by decide +kernel
theorem dX0_addBow_16 : decode cX0_addBow 16 = .ok (.aload_n 0, 1) := by decide +kernel
theorem dX0_addBow_17 : decode cX0_addBow 17 = .ok (.getfield 21, 3) := by decide +kernel
theorem dX0_addBow_20 : decode cX0_addBow 20 = .ok (.aload_n 0, 1) := by decide +kernel
theorem dX0_addBow_21 : decode cX0_addBow 21 = .ok (.getfield 27, 3) := by decide +kernel
theorem dX0_addBow_24 : decode cX0_addBow 24 = .ok (.iload_n 1, 1) := by decide +kernel
theorem dX0_addBow_25 : decode cX0_addBow 25 = .ok (.iastore, 1) := by decide +kernel
theorem dX0_addBow_26 : decode cX0_addBow 26 = .ok (.aload_n 0, 1) := by decide +kernel
theorem dX0_addBow_27 : decode cX0_addBow 27 = .ok (.getfield 24, 3) := by decide +kernel
theorem dX0_addBow_30 : decode cX0_addBow 30 = .ok (.aload_n 0, 1) := by decide +kernel
theorem dX0_addBow_31 : decode cX0_addBow 31 = .ok (.getfield 27, 3) := by decide +kernel
theorem dX0_addBow_34 : decode cX0_addBow 34 = .ok (.iload_n 2, 1) := by decide +kernel
theorem dX0_addBow_35 : decode cX0_addBow 35 = .ok (.iastore, 1) := by decide +kernel
theorem dX0_addBow_36 : decode cX0_addBow 36 = .ok (.aload_n 0, 1) := by decide +kernel
theorem dX0_addBow_37 : decode cX0_addBow 37 = .ok (.dup, 1) := by decide +kernel
theorem dX0_addBow_38 : decode cX0_addBow 38 = .ok (.getfield 27, 3) := by decide +kernel
theorem dX0_addBow_41 : decode cX0_addBow 41 = .ok (.iconst 1, 1) := by decide +kernel
theorem dX0_addBow_42 : decode cX0_addBow 42 = .ok (.iadd, 1) := by decide +kernel
theorem dX0_addBow_43 : decode cX0_addBow 43 = .ok (.putfield 27, 3) := by decide +kernel
theorem dX0_addBow_46 : decode cX0_addBow 46 = .ok (.return_, 1) := by decide +kernel
theorem dX0_bowAt_0 : decode cX0_bowAt 0 = .ok (.aload_n 0, 1) := by decide +kernel
theorem dX0_bowAt_1 : decode cX0_bowAt 1 = .ok (.getfield 21, 3) := by decide +kernel
theorem dX0_bowAt_4 : decode cX0_bowAt 4 = .ok (.iload_n 1, 1) := by decide +kernel
theorem dX0_bowAt_5 : decode cX0_bowAt 5 = .ok (.invokestatic 41, 3) := by decide +kernel
theorem dX0_bowAt_8 : decode cX0_bowAt 8 = .ok (.ireturn, 1) := by decide +kernel
theorem dX1_init_0 : decode cX1_init 0 = .ok (.aload_n 0, 1) := by decide +kernel
theorem dX1_init_1 : decode cX1_init 1 = .ok (.invokespecial 3, 3) := by decide +kernel
theorem dX1_init_4 : decode cX1_init 4 = .ok (.aload_n 0, 1) := by decide +kernel
theorem dX1_init_5 : decode cX1_init 5 = .ok (.bipush 6, 2) := by decide +kernel
theorem dX1_init_7 : decode cX1_init 7 = .ok (.anewarray 9, 3) := by decide +kernel
theorem dX1_init_10 : decode cX1_init 10 = .ok (.putfield 11, 3) := by decide +kernel
theorem dX1_init_13 : decode cX1_init 13 = .ok (.aload_n 0, 1) := by decide +kernel
theorem dX1_init_14 : decode cX1_init 14 = .ok (.iconst 0, 1) := by decide +kernel
theorem dX1_init_15 : decode cX1_init 15 = .ok (.putfield 17, 3) := by decide +kernel
theorem dX1_init_18 : decode cX1_init 18 = .ok (.aload_n 0, 1) := by decide +kernel
theorem dX1_init_19 : decode cX1_init 19 = .ok (.iconst 0, 1) := by decide +kernel
theorem dX1_init_20 : decode cX1_init 20 = .ok (.putfield 21, 3) := by decide +kernel
theorem dX1_init_23 : decode cX1_init 23 = .ok (.return_, 1) := by decide +kernel
theorem dX1_remember_0 : decode cX1_remember 0 = .ok (.aload_n 0, 1) := by decide +kernel
theorem dX1_remember_1 : decode cX1_remember 1 = .ok (.getfield 17, 3) := by decide +kernel
theorem dX1_remember_4 : decode cX1_remember 4 = .ok (.ifCond .lt 12, 3) := by decide +kernel
theorem dX1_remember_7 : decode cX1_remember 7 = .ok (.aload_n 0, 1) := by decide +kernel
theorem dX1_remember_8 : decode cX1_remember 8 = .ok (.getfield 17, 3) := by decide +kernel
theorem dX1_remember_11 : decode cX1_remember 11 = .ok (.bipush 6, 2) := by decide +kernel
theorem dX1_remember_13 : decode cX1_remember 13 = .ok (.if_icmp .lt 4, 3) := by decide +kernel
theorem dX1_remember_16 : decode cX1_remember 16 = .ok (.return_, 1) := by decide +kernel
theorem dX1_remember_17 : decode cX1_remember 17 = .ok (.aload_n 0, 1) := by decide +kernel
theorem dX1_remember_18 : decode cX1_remember 18 = .ok (.getfield 11, 3) := by decide +kernel
theorem dX1_remember_21 : decode cX1_remember 21 = .ok (.aload_n 0, 1) := by decide +kernel
theorem dX1_remember_22 : decode cX1_remember 22 = .ok (.getfield 17, 3) := by decide +kernel
theorem dX1_remember_25 : decode cX1_remember 25 = .ok (.aload_n 1, 1) := by decide +kernel
theorem dX1_remember_26 : decode cX1_remember 26 = .ok (.aload_n 0, 1) := by decide +kernel
theorem dX1_remember_27 : decode cX1_remember 27 = .ok (.getfield 11, 3) := by decide +kernel
theorem dX1_remember_30 : decode cX1_remember 30 = .ok (.aload_n 0, 1) := by decide +kernel
theorem dX1_remember_31 : decode cX1_remember 31 = .ok (.getfield 17, 3) := by decide +kernel
theorem dX1_remember_34 : decode cX1_remember 34 = .ok (.aaload, 1) := by decide +kernel
theorem dX1_remember_35 : decode cX1_remember 35 = .ok (.invokestatic 24, 3) := by decide +kernel
theorem dX1_remember_38 : decode cX1_remember 38 = .ok (.aastore, 1) := by decide +kernel
theorem dX1_remember_39 : decode cX1_remember 39 = .ok (.aload_n 0, 1) := by decide +kernel
theorem dX1_remember_40 : decode cX1_remember 40 = .ok (.aload_n 0, 1) := by decide +kernel
theorem dX1_remember_41 : decode cX1_remember 41 = .ok (.getfield 17, 3) := by decide +kernel
theorem dX1_remember_44 : decode cX1_remember 44 = .ok (.iconst 1, 1) := by decide +kernel
theorem dX1_remember_45 : decode cX1_remember 45 = .ok (.iadd, 1) := by decide +kernel
theorem dX1_remember_46 : decode cX1_remember 46 = .ok (.bipush 6, 2) := by decide +kernel
theorem dX1_remember_48 : decode cX1_remember 48 = .ok (.irem, 1) := by decide +kernel
theorem dX1_remember_49 : decode cX1_remember 49 = .ok (.putfield 17, 3) := by decide +kernel
theorem dX1_remember_52 : decode cX1_remember 52 = .ok (.aload_n 0, 1) := by decide +kernel
theorem dX1_remember_53 : decode cX1_remember 53 = .ok (.aload_n 0, 1) := by decide +kernel
theorem dX1_remember_54 : decode cX1_remember 54 = .ok (.getfield 21, 3) := by decide +kernel
theorem dX1_remember_57 : decode cX1_remember 57 = .ok (.iconst 1, 1) := by decide +kernel
theorem dX1_remember_58 : decode cX1_remember 58 = .ok (.iadd, 1) := by decide +kernel
theorem dX1_remember_59 : decode cX1_remember 59 = .ok (.bipush 6, 2) := by decide +kernel
theorem dX1_remember_61 : decode cX1_remember 61 = .ok (.invokestatic 28, 3) := by decide +kernel
theorem dX1_remember_64 : decode cX1_remember 64 = .ok (.putfield 21, 3) := by decide +kernel
theorem dX1_remember_67 : decode cX1_remember 67 = .ok (.return_, 1) := by decide +kernel
theorem dX1_stepBack_0 : decode cX1_stepBack 0 = .ok (.aload_n 0, 1) := by decide +kernel
theorem dX1_stepBack_1 : decode cX1_stepBack 1 = .ok (.getfield 17, 3) := by decide +kernel
theorem dX1_stepBack_4 : decode cX1_stepBack 4 = .ok (.bipush 6, 2) := by decide +kernel
theorem dX1_stepBack_6 : decode cX1_stepBack 6 = .ok (.iadd, 1) := by decide +kernel
theorem dX1_stepBack_7 : decode cX1_stepBack 7 = .ok (.iconst 1, 1) := by decide +kernel
theorem dX1_stepBack_8 : decode cX1_stepBack 8 = .ok (.isub, 1) := by decide +kernel
theorem dX1_stepBack_9 : decode cX1_stepBack 9 = .ok (.bipush 6, 2) := by decide +kernel
theorem dX1_stepBack_11 : decode cX1_stepBack 11 = .ok (.irem, 1) := by decide +kernel
theorem dX1_stepBack_12 : decode cX1_stepBack 12 = .ok (.istore_n 2, 1) := by decide +kernel
theorem dX1_stepBack_13 : decode cX1_stepBack 13 = .ok (.aload_n 0, 1) := by decide +kernel
theorem dX1_stepBack_14 : decode cX1_stepBack 14 = .ok (.getfield 21, 3) := by decide +kernel
theorem dX1_stepBack_17 : decode cX1_stepBack 17 = .ok (.ifCond .le 16, 3) := by decide +kernel
theorem dX1_stepBack_20 : decode cX1_stepBack 20 = .ok (.iload_n 2, 1) := by decide +kernel
theorem dX1_stepBack_21 : decode cX1_stepBack 21 = .ok (.ifCond .lt 12, 3) := by decide +kernel
theorem dX1_stepBack_24 : decode cX1_stepBack 24 = .ok (.aload_n 0, 1) := by decide +kernel
theorem dX1_stepBack_25 : decode cX1_stepBack 25 = .ok (.getfield 11, 3) := by decide +kernel
theorem dX1_stepBack_28 : decode cX1_stepBack 28 = .ok (.iload_n 2, 1) := by decide +kernel
theorem dX1_stepBack_29 : decode cX1_stepBack 29 = .ok (.aaload, 1) := by decide +kernel
theorem dX1_stepBack_30 : decode cX1_stepBack 30 = .ok (.ifnonnull 5, 3) := by decide +kernel
theorem dX1_stepBack_33 : decode cX1_stepBack 33 = .ok (.iconst 0, 1) := by decide +kernel
theorem dX1_stepBack_34 : decode cX1_stepBack 34 = .ok (.ireturn, 1) := by decide +kernel
theorem dX1_stepBack_35 : decode cX1_stepBack 35 = .ok (.aload_n 1, 1) := by decide +kernel
theorem dX1_stepBack_36 : decode cX1_stepBack 36 = .ok (.aload_n 0, 1) := by decide +kernel
theorem dX1_stepBack_37 : decode cX1_stepBack 37 = .ok (.getfield 11, 3) := by decide +kernel
theorem dX1_stepBack_40 : decode cX1_stepBack 40 = .ok (.iload_n 2, 1) := by decide +kernel
theorem dX1_stepBack_41 : decode cX1_stepBack 41 = .ok (.aaload, 1) := by decide +kernel
theorem dX1_stepBack_42 : decode cX1_stepBack 42 = .ok (.invokevirtual 34, 3) := by decide +kernel
theorem dX1_stepBack_45 : decode cX1_stepBack 45 = .ok (.aload_n 0, 1) := by decide +kernel
theorem dX1_stepBack_46 : decode cX1_stepBack 46 = .ok (.iload_n 2, 1) := by decide +kernel
theorem dX1_stepBack_47 : decode cX1_stepBack 47 = .ok (.putfield 17, 3) := by decide +kernel
theorem dX1_stepBack_50 : decode cX1_stepBack 50 = .ok (.aload_n 0, 1) := by decide +kernel
theorem dX1_stepBack_51 : decode cX1_stepBack 51 = .ok (.dup, 1) := by decide +kernel
theorem dX1_stepBack_52 : decode cX1_stepBack 52 = .ok (.getfield 21, 3) := by decide +kernel
theorem dX1_stepBack_55 : decode cX1_stepBack 55 = .ok (.iconst 1, 1) := by decide +kernel
theorem dX1_stepBack_56 : decode cX1_stepBack 56 = .ok (.isub, 1) := by decide +kernel
theorem dX1_stepBack_57 : decode cX1_stepBack 57 = .ok (.putfield 21, 3) := by decide +kernel
theorem dX1_stepBack_60 : decode cX1_stepBack 60 = .ok (.iconst 1, 1) := by decide +kernel
theorem dX1_stepBack_61 : decode cX1_stepBack 61 = .ok (.ireturn, 1) := by decide +kernel
theorem dX2_init_0 : decode cX2_init 0 = .ok (.aload_n 0, 1) := by decide +kernel
theorem dX2_init_1 : decode cX2_init 1 = .ok (.invokespecial 3, 3) := by decide +kernel
theorem dX2_init_4 : decode cX2_init 4 = .ok (.aload_n 0, 1) := by decide +kernel
theorem dX2_init_5 : decode cX2_init 5 = .ok (.bipush 60, 2) := by decide +kernel
theorem dX2_init_7 : decode cX2_init 7 = .ok (.newarray .char, 2) := by decide +kernel
theorem dX2_init_9 : decode cX2_init 9 = .ok (.putfield 9, 3) := by decide +kernel
theorem dX2_init_12 : decode cX2_init 12 = .ok (.aload_n 0, 1) := by decide +kernel
theorem dX2_init_13 : decode cX2_init 13 = .ok (.iconst 0, 1) := by decide +kernel
theorem dX2_init_14 : decode cX2_init 14 = .ok (.putfield 15, 3) := by decide +kernel
theorem dX2_init_17 : decode cX2_init 17 = .ok (.return_, 1) := by decide +kernel
theorem dX2_append_0 : decode cX2_append 0 = .ok (.aload_n 0, 1) := by decide +kernel
theorem dX2_append_1 : decode cX2_append 1 = .ok (.getfield 15, 3) := by decide +kernel
theorem dX2_append_4 : decode cX2_append 4 = .ok (.ifCond .lt 32, 3) := by decide +kernel
theorem dX2_append_7 : decode cX2_append 7 = .ok (.aload_n 0, 1) := by decide +kernel
theorem dX2_append_8 : decode cX2_append 8 = .ok (.getfield 15, 3) := by decide +kernel
theorem dX2_append_11 : decode cX2_append 11 = .ok (.bipush 60, 2) := by decide +kernel
theorem dX2_append_13 : decode cX2_append 13 = .ok (.if_icmp .ge 23, 3) := by decide +kernel
theorem dX2_append_16 : decode cX2_append 16 = .ok (.aload_n 0, 1) := by decide +kernel
theorem dX2_append_17 : decode cX2_append 17 = .ok (.getfield 9, 3) := by decide +kernel
theorem dX2_append_20 : decode cX2_append 20 = .ok (.aload_n 0, 1) := by decide +kernel
theorem dX2_append_21 : decode cX2_append 21 = .ok (.getfield 15, 3) := by decide +kernel
theorem dX2_append_24 : decode cX2_append 24 = .ok (.iload_n 1, 1) := by decide +kernel
theorem dX2_append_25 : decode cX2_append 25 = .ok (.castore, 1) := by decide +kernel
theorem dX2_append_26 : decode cX2_append 26 = .ok (.aload_n 0, 1) := by decide +kernel
theorem dX2_append_27 : decode cX2_append 27 = .ok (.dup, 1) := by decide +kernel
theorem dX2_append_28 : decode cX2_append 28 = .ok (.getfield 15, 3) := by decide +kernel
theorem dX2_append_31 : decode cX2_append 31 = .ok (.iconst 1, 1) := by decide +kernel
theorem dX2_append_32 : decode cX2_append 32 = .ok (.iadd, 1) := by decide +kernel
theorem dX2_append_33 : decode cX2_append 33 = .ok (.putfield 15, 3) := by decide +kernel
theorem dX2_append_36 : decode cX2_append 36 = .ok (.return_, 1) := by decide +kernel
theorem dX2_characterAt_0 : decode cX2_characterAt 0 = .ok (.iload_n 1, 1) := by decide +kernel
theorem dX2_characterAt_1 : decode cX2_characterAt 1 = .ok (.ifCond .lt 26, 3) := by decide +kernel
theorem dX2_characterAt_4 : decode cX2_characterAt 4 = .ok (.iload_n 1, 1) := by decide +kernel
theorem dX2_characterAt_5 : decode cX2_characterAt 5 = .ok (.aload_n 0, 1) := by decide +kernel
theorem dX2_characterAt_6 : decode cX2_characterAt 6 = .ok (.getfield 15, 3) := by decide +kernel
theorem dX2_characterAt_9 : decode cX2_characterAt 9 = .ok (.if_icmp .ge 18, 3) := by decide +kernel
theorem dX2_characterAt_12 : decode cX2_characterAt 12 = .ok (.iload_n 1, 1) := by decide +kernel
theorem dX2_characterAt_13 : decode cX2_characterAt 13 = .ok (.bipush 60, 2) := by decide +kernel
theorem dX2_characterAt_15 : decode cX2_characterAt 15 = .ok (.if_icmp .ge 12, 3) := by decide +kernel
theorem dX2_characterAt_18 : decode cX2_characterAt 18 = .ok (.aload_n 0, 1) := by decide +kernel
theorem dX2_characterAt_19 : decode cX2_characterAt 19 = .ok (.getfield 9, 3) := by decide +kernel
theorem dX2_characterAt_22 : decode cX2_characterAt 22 = .ok (.iload_n 1, 1) := by decide +kernel
theorem dX2_characterAt_23 : decode cX2_characterAt 23 = .ok (.caload, 1) := by decide +kernel
theorem dX2_characterAt_24 : decode cX2_characterAt 24 = .ok (.goto 4, 3) := by decide +kernel
theorem dX2_characterAt_27 : decode cX2_characterAt 27 = .ok (.iconst 0, 1) := by decide +kernel
theorem dX2_characterAt_28 : decode cX2_characterAt 28 = .ok (.ireturn, 1) := by decide +kernel
theorem dX2_firstFault_0 : decode cX2_firstFault 0 = .ok (.iconst 0, 1) := by decide +kernel
theorem dX2_firstFault_1 : decode cX2_firstFault 1 = .ok (.istore_n 1, 1) := by decide +kernel
theorem dX2_firstFault_2 : decode cX2_firstFault 2 = .ok (.iconst 0, 1) := by decide +kernel
theorem dX2_firstFault_3 : decode cX2_firstFault 3 = .ok (.istore_n 2, 1) := by decide +kernel
theorem dX2_firstFault_4 : decode cX2_firstFault 4 = .ok (.iload_n 2, 1) := by decide +kernel
theorem dX2_firstFault_5 : decode cX2_firstFault 5 = .ok (.aload_n 0, 1) := by decide +kernel
theorem dX2_firstFault_6 : decode cX2_firstFault 6 = .ok (.getfield 15, 3) := by decide +kernel
theorem dX2_firstFault_9 : decode cX2_firstFault 9 = .ok (.if_icmp .ge 26, 3) := by decide +kernel
theorem dX2_firstFault_12 : decode cX2_firstFault 12 = .ok (.iload_n 1, 1) := by decide +kernel
theorem dX2_firstFault_13 : decode cX2_firstFault 13 = .ok (.aload_n 0, 1) := by decide +kernel
theorem dX2_firstFault_14 : decode cX2_firstFault 14 = .ok (.iload_n 2, 1) := by decide +kernel
theorem dX2_firstFault_15 : decode cX2_firstFault 15 = .ok (.invokevirtual 19, 3) := by decide +kernel
theorem dX2_firstFault_18 : decode cX2_firstFault 18 = .ok (.invokestatic 23, 3) := by decide +kernel
theorem dX2_firstFault_21 : decode cX2_firstFault 21 = .ok (.istore_n 1, 1) := by decide +kernel
theorem dX2_firstFault_22 : decode cX2_firstFault 22 = .ok (.iload_n 1, 1) := by decide +kernel
theorem dX2_firstFault_23 : decode cX2_firstFault 23 = .ok (.iconst 5, 1) := by decide +kernel
theorem dX2_firstFault_24 : decode cX2_firstFault 24 = .ok (.if_icmp .ne 5, 3) := by decide +kernel
theorem dX2_firstFault_27 : decode cX2_firstFault 27 = .ok (.iload_n 2, 1) := by decide +kernel
theorem dX2_firstFault_28 : decode cX2_firstFault 28 = .ok (.ireturn, 1) := by decide +kernel
theorem dX2_firstFault_29 : decode cX2_firstFault 29 = .ok (.iinc 2 1, 3) := by decide +kernel
theorem dX2_firstFault_32 : decode cX2_firstFault 32 = .ok (.goto (-28), 3) := by decide +kernel
theorem dX2_firstFault_35 : decode cX2_firstFault 35 = .ok (.iload_n 1, 1) := by decide +kernel
theorem dX2_firstFault_36 : decode cX2_firstFault 36 = .ok (.iconst 2, 1) := by decide +kernel
theorem dX2_firstFault_37 : decode cX2_firstFault 37 = .ok (.if_icmp .eq 8, 3) := by decide +kernel
theorem dX2_firstFault_40 : decode cX2_firstFault 40 = .ok (.iload_n 1, 1) := by decide +kernel
theorem dX2_firstFault_41 : decode cX2_firstFault 41 = .ok (.iconst 4, 1) := by decide +kernel
theorem dX2_firstFault_42 : decode cX2_firstFault 42 = .ok (.if_icmp .ne 7, 3) := by decide +kernel
theorem dX2_firstFault_45 : decode cX2_firstFault 45 = .ok (.iconst 1, 1) := by decide +kernel
theorem dX2_firstFault_46 : decode cX2_firstFault 46 = .ok (.goto 4, 3) := by decide +kernel
theorem dX2_firstFault_49 : decode cX2_firstFault 49 = .ok (.iconst 0, 1) := by decide +kernel
theorem dX2_firstFault_50 : decode cX2_firstFault 50 = .ok (.istore_n 2, 1) := by decide +kernel
theorem dX2_firstFault_51 : decode cX2_firstFault 51 = .ok (.iload_n 2, 1) := by decide +kernel
theorem dX2_firstFault_52 : decode cX2_firstFault 52 = .ok (.ifCond .eq 8, 3) := by decide +kernel
theorem dX2_firstFault_55 : decode cX2_firstFault 55 = .ok (.ldc 27, 2) := by decide +kernel
theorem dX2_firstFault_57 : decode cX2_firstFault 57 = .ok (.goto 7, 3) := by decide +kernel
theorem dX2_firstFault_60 : decode cX2_firstFault 60 = .ok (.aload_n 0, 1) := by decide +kernel
theorem dX2_firstFault_61 : decode cX2_firstFault 61 = .ok (.getfield 15, 3) := by decide +kernel
theorem dX2_firstFault_64 : decode cX2_firstFault 64 = .ok (.ireturn, 1) := by decide +kernel
theorem dX2_placeBehind_0 : decode cX2_placeBehind 0 = .ok (.iload_n 1, 1) := by decide +kernel
theorem dX2_placeBehind_1 : decode cX2_placeBehind 1 = .ok (.bipush 49, 2) := by decide +kernel
theorem dX2_placeBehind_3 : decode cX2_placeBehind 3 = .ok (.if_icmp .lt 13, 3) := by decide +kernel
theorem dX2_placeBehind_6 : decode cX2_placeBehind 6 = .ok (.iload_n 1, 1) := by decide +kernel
theorem dX2_placeBehind_7 : decode cX2_placeBehind 7 = .ok (.bipush 51, 2) := by decide +kernel
theorem dX2_placeBehind_9 : decode cX2_placeBehind 9 = .ok (.if_icmp .gt 7, 3) := by decide +kernel
theorem dX2_placeBehind_12 : decode cX2_placeBehind 12 = .ok (.iconst 1, 1) := by decide +kernel
theorem dX2_placeBehind_13 : decode cX2_placeBehind 13 = .ok (.goto 4, 3) := by decide +kernel
theorem dX2_placeBehind_16 : decode cX2_placeBehind 16 = .ok (.iconst 0, 1) := by decide +kernel
theorem dX2_placeBehind_17 : decode cX2_placeBehind 17 = .ok (.istore_n 2, 1) := by decide +kernel
theorem dX2_placeBehind_18 : decode cX2_placeBehind 18 = .ok (.iload_n 0, 1) := by decide +kernel
theorem dX2_placeBehind_19 : decode cX2_placeBehind 19 = .ok (.tableswitch 79 1 3 #[25, 43, 61], 25) := by decide +kernel
theorem dX2_placeBehind_44 : decode cX2_placeBehind 44 = .ok (.iload_n 1, 1) := by decide +kernel
theorem dX2_placeBehind_45 : decode cX2_placeBehind 45 = .ok (.bipush 108, 2) := by decide +kernel
theorem dX2_placeBehind_47 : decode cX2_placeBehind 47 = .ok (.if_icmp .eq 9, 3) := by decide +kernel
theorem dX2_placeBehind_50 : decode cX2_placeBehind 50 = .ok (.iload_n 1, 1) := by decide +kernel
theorem dX2_placeBehind_51 : decode cX2_placeBehind 51 = .ok (.bipush 114, 2) := by decide +kernel
theorem dX2_placeBehind_53 : decode cX2_placeBehind 53 = .ok (.if_icmp .ne 7, 3) := by decide +kernel
theorem dX2_placeBehind_56 : decode cX2_placeBehind 56 = .ok (.iconst 2, 1) := by decide +kernel
theorem dX2_placeBehind_57 : decode cX2_placeBehind 57 = .ok (.goto 4, 3) := by decide +kernel
theorem dX2_placeBehind_60 : decode cX2_placeBehind 60 = .ok (.iconst 5, 1) := by decide +kernel
theorem dX2_placeBehind_61 : decode cX2_placeBehind 61 = .ok (.ireturn, 1) := by decide +kernel
theorem dX2_placeBehind_62 : decode cX2_placeBehind 62 = .ok (.iload_n 1, 1) := by decide +kernel
theorem dX2_placeBehind_63 : decode cX2_placeBehind 63 = .ok (.bipush 46, 2) := by decide +kernel
theorem dX2_placeBehind_65 : decode cX2_placeBehind 65 = .ok (.if_icmp .ne 5, 3) := by decide +kernel
theorem dX2_placeBehind_68 : decode cX2_placeBehind 68 = .ok (.iconst 3, 1) := by decide +kernel
theorem dX2_placeBehind_69 : decode cX2_placeBehind 69 = .ok (.ireturn, 1) := by decide +kernel
theorem dX2_placeBehind_70 : decode cX2_placeBehind 70 = .ok (.iload_n 2, 1) := by decide +kernel
theorem dX2_placeBehind_71 : decode cX2_placeBehind 71 = .ok (.ifCond .eq 7, 3) := by decide +kernel
theorem dX2_placeBehind_74 : decode cX2_placeBehind 74 = .ok (.iconst 1, 1) := by decide +kernel
theorem dX2_placeBehind_75 : decode cX2_placeBehind 75 = .ok (.goto 4, 3) := by decide +kernel
theorem dX2_placeBehind_78 : decode cX2_placeBehind 78 = .ok (.iconst 5, 1) := by decide +kernel
theorem dX2_placeBehind_79 : decode cX2_placeBehind 79 = .ok (.ireturn, 1) := by decide +kernel
theorem dX2_placeBehind_80 : decode cX2_placeBehind 80 = .ok (.iload_n 1, 1) := by decide +kernel
theorem dX2_placeBehind_81 : decode cX2_placeBehind 81 = .ok (.bipush 48, 2) := by decide +kernel
theorem dX2_placeBehind_83 : decode cX2_placeBehind 83 = .ok (.if_icmp .lt 13, 3) := by decide +kernel
theorem dX2_placeBehind_86 : decode cX2_placeBehind 86 = .ok (.iload_n 1, 1) := by decide +kernel
theorem dX2_placeBehind_87 : decode cX2_placeBehind 87 = .ok (.bipush 57, 2) := by decide +kernel
theorem dX2_placeBehind_89 : decode cX2_placeBehind 89 = .ok (.if_icmp .gt 7, 3) := by decide +kernel
theorem dX2_placeBehind_92 : decode cX2_placeBehind 92 = .ok (.iconst 4, 1) := by decide +kernel
theorem dX2_placeBehind_93 : decode cX2_placeBehind 93 = .ok (.goto 4, 3) := by decide +kernel
theorem dX2_placeBehind_96 : decode cX2_placeBehind 96 = .ok (.iconst 5, 1) := by decide +kernel
theorem dX2_placeBehind_97 : decode cX2_placeBehind 97 = .ok (.ireturn, 1) := by decide +kernel
theorem dX2_placeBehind_98 : decode cX2_placeBehind 98 = .ok (.iload_n 2, 1) := by decide +kernel
theorem dX2_placeBehind_99 : decode cX2_placeBehind 99 = .ok (.ifCond .eq 7, 3) := by decide +kernel
theorem dX2_placeBehind_102 : decode cX2_placeBehind 102 = .ok (.iconst 1, 1) := by decide +kernel
theorem dX2_placeBehind_103 : decode cX2_placeBehind 103 = .ok (.goto 4, 3) := by decide +kernel
theorem dX2_placeBehind_106 : decode cX2_placeBehind 106 = .ok (.iconst 5, 1) := by decide +kernel
theorem dX2_placeBehind_107 : decode cX2_placeBehind 107 = .ok (.ireturn, 1) := by decide +kernel
theorem dX2_bowsInText_0 : decode cX2_bowsInText 0 = .ok (.iconst 0, 1) := by decide +kernel
theorem dX2_bowsInText_1 : decode cX2_bowsInText 1 = .ok (.istore_n 1, 1) := by decide +kernel
theorem dX2_bowsInText_2 : decode cX2_bowsInText 2 = .ok (.iconst 0, 1) := by decide +kernel
theorem dX2_bowsInText_3 : decode cX2_bowsInText 3 = .ok (.istore_n 2, 1) := by decide +kernel
theorem dX2_bowsInText_4 : decode cX2_bowsInText 4 = .ok (.iload_n 2, 1) := by decide +kernel
theorem dX2_bowsInText_5 : decode cX2_bowsInText 5 = .ok (.aload_n 0, 1) := by decide +kernel
theorem dX2_bowsInText_6 : decode cX2_bowsInText 6 = .ok (.getfield 15, 3) := by decide +kernel
theorem dX2_bowsInText_9 : decode cX2_bowsInText 9 = .ok (.if_icmp .ge 32, 3) := by decide +kernel
theorem dX2_bowsInText_12 : decode cX2_bowsInText 12 = .ok (.aload_n 0, 1) := by decide +kernel
theorem dX2_bowsInText_13 : decode cX2_bowsInText 13 = .ok (.iload_n 2, 1) := by decide +kernel
theorem dX2_bowsInText_14 : decode cX2_bowsInText 14 = .ok (.invokevirtual 19, 3) := by decide +kernel
theorem dX2_bowsInText_17 : decode cX2_bowsInText 17 = .ok (.bipush 108, 2) := by decide +kernel
theorem dX2_bowsInText_19 : decode cX2_bowsInText 19 = .ok (.if_icmp .eq 13, 3) := by decide +kernel
theorem dX2_bowsInText_22 : decode cX2_bowsInText 22 = .ok (.aload_n 0, 1) := by decide +kernel
theorem dX2_bowsInText_23 : decode cX2_bowsInText 23 = .ok (.iload_n 2, 1) := by decide +kernel
theorem dX2_bowsInText_24 : decode cX2_bowsInText 24 = .ok (.invokevirtual 19, 3) := by decide +kernel
theorem dX2_bowsInText_27 : decode cX2_bowsInText 27 = .ok (.bipush 114, 2) := by decide +kernel
theorem dX2_bowsInText_29 : decode cX2_bowsInText 29 = .ok (.if_icmp .ne 6, 3) := by decide +kernel
theorem dX2_bowsInText_32 : decode cX2_bowsInText 32 = .ok (.iinc 1 1, 3) := by decide +kernel
theorem dX2_bowsInText_35 : decode cX2_bowsInText 35 = .ok (.iinc 2 1, 3) := by decide +kernel
theorem dX2_bowsInText_38 : decode cX2_bowsInText 38 = .ok (.goto (-34), 3) := by decide +kernel
theorem dX2_bowsInText_41 : decode cX2_bowsInText 41 = .ok (.iload_n 1, 1) := by decide +kernel
theorem dX2_bowsInText_42 : decode cX2_bowsInText 42 = .ok (.ireturn, 1) := by decide +kernel
theorem dX2_addBowsTo_0 : decode cX2_addBowsTo 0 = .ok (.iconst 0, 1) := by decide +kernel
theorem dX2_addBowsTo_1 : decode cX2_addBowsTo 1 = .ok (.istore_n 2, 1) := by decide +kernel
theorem dX2_addBowsTo_2 : decode cX2_addBowsTo 2 = .ok (.iload_n 2, 1) := by decide +kernel
theorem dX2_addBowsTo_3 : decode cX2_addBowsTo 3 = .ok (.aload_n 0, 1) := by decide +kernel
theorem dX2_addBowsTo_4 : decode cX2_addBowsTo 4 = .ok (.getfield 15, 3) := by decide +kernel
theorem dX2_addBowsTo_7 : decode cX2_addBowsTo 7 = .ok (.if_icmp .ge 77, 3) := by decide +kernel
theorem dX2_addBowsTo_10 : decode cX2_addBowsTo 10 = .ok (.aload_n 0, 1) := by decide +kernel
theorem dX2_addBowsTo_11 : decode cX2_addBowsTo 11 = .ok (.iload_n 2, 1) := by decide +kernel
theorem dX2_addBowsTo_12 : decode cX2_addBowsTo 12 = .ok (.invokevirtual 19, 3) := by decide +kernel
theorem dX2_addBowsTo_15 : decode cX2_addBowsTo 15 = .ok (.bipush 48, 2) := by decide +kernel
theorem dX2_addBowsTo_17 : decode cX2_addBowsTo 17 = .ok (.isub, 1) := by decide +kernel
theorem dX2_addBowsTo_18 : decode cX2_addBowsTo 18 = .ok (.istore_n 3, 1) := by decide +kernel
theorem dX2_addBowsTo_19 : decode cX2_addBowsTo 19 = .ok (.aload_n 0, 1) := by decide +kernel
theorem dX2_addBowsTo_20 : decode cX2_addBowsTo 20 = .ok (.iload_n 2, 1) := by decide +kernel
theorem dX2_addBowsTo_21 : decode cX2_addBowsTo 21 = .ok (.iconst 1, 1) := by decide +kernel
theorem dX2_addBowsTo_22 : decode cX2_addBowsTo 22 = .ok (.iadd, 1) := by decide +kernel
theorem dX2_addBowsTo_23 : decode cX2_addBowsTo 23 = .ok (.invokevirtual 19, 3) := by decide +kernel
theorem dX2_addBowsTo_26 : decode cX2_addBowsTo 26 = .ok (.bipush 114, 2) := by decide +kernel
theorem dX2_addBowsTo_28 : decode cX2_addBowsTo 28 = .ok (.if_icmp .ne 7, 3) := by decide +kernel
theorem dX2_addBowsTo_31 : decode cX2_addBowsTo 31 = .ok (.iconst 1, 1) := by decide +kernel
theorem dX2_addBowsTo_32 : decode cX2_addBowsTo 32 = .ok (.goto 4, 3) := by decide +kernel
theorem dX2_addBowsTo_35 : decode cX2_addBowsTo 35 = .ok (.iconst 0, 1) := by decide +kernel
theorem dX2_addBowsTo_36 : decode cX2_addBowsTo 36 = .ok (.istore 4, 2) := by decide +kernel
theorem dX2_addBowsTo_38 : decode cX2_addBowsTo 38 = .ok (.iinc 2 2, 3) := by decide +kernel
theorem dX2_addBowsTo_41 : decode cX2_addBowsTo 41 = .ok (.iconst 0, 1) := by decide +kernel
theorem dX2_addBowsTo_42 : decode cX2_addBowsTo 42 = .ok (.istore 5, 2) := by decide +kernel
theorem dX2_addBowsTo_44 : decode cX2_addBowsTo 44 = .ok (.aload_n 0, 1) := by decide +kernel
theorem dX2_addBowsTo_45 : decode cX2_addBowsTo 45 = .ok (.iload_n 2, 1) := by decide +kernel
theorem dX2_addBowsTo_46 : decode cX2_addBowsTo 46 = .ok (.invokevirtual 19, 3) := by decide +kernel
theorem dX2_addBowsTo_49 : decode cX2_addBowsTo 49 = .ok (.bipush 46, 2) := by decide +kernel
theorem dX2_addBowsTo_51 : decode cX2_addBowsTo 51 = .ok (.if_icmp .ne 18, 3) := by decide +kernel
theorem dX2_addBowsTo_54 : decode cX2_addBowsTo 54 = .ok (.aload_n 0, 1) := by decide +kernel
theorem dX2_addBowsTo_55 : decode cX2_addBowsTo 55 = .ok (.iload_n 2, 1) := by decide +kernel
theorem dX2_addBowsTo_56 : decode cX2_addBowsTo 56 = .ok (.iconst 1, 1) := by decide +kernel
theorem dX2_addBowsTo_57 : decode cX2_addBowsTo 57 = .ok (.iadd, 1) := by decide +kernel
theorem dX2_addBowsTo_58 : decode cX2_addBowsTo 58 = .ok (.invokevirtual 19, 3) := by decide +kernel
theorem dX2_addBowsTo_61 : decode cX2_addBowsTo 61 = .ok (.bipush 48, 2) := by decide +kernel
theorem dX2_addBowsTo_63 : decode cX2_addBowsTo 63 = .ok (.isub, 1) := by decide +kernel
theorem dX2_addBowsTo_64 : decode cX2_addBowsTo 64 = .ok (.istore 5, 2) := by decide +kernel
theorem dX2_addBowsTo_66 : decode cX2_addBowsTo 66 = .ok (.iinc 2 2, 3) := by decide +kernel
theorem dX2_addBowsTo_69 : decode cX2_addBowsTo 69 = .ok (.aload_n 1, 1) := by decide +kernel
theorem dX2_addBowsTo_70 : decode cX2_addBowsTo 70 = .ok (.iload_n 3, 1) := by decide +kernel
theorem dX2_addBowsTo_71 : decode cX2_addBowsTo 71 = .ok (.iload 4, 2) := by decide +kernel
theorem dX2_addBowsTo_73 : decode cX2_addBowsTo 73 = .ok (.invokestatic 28, 3) := by decide +kernel
theorem dX2_addBowsTo_76 : decode cX2_addBowsTo 76 = .ok (.iload 5, 2) := by decide +kernel
theorem dX2_addBowsTo_78 : decode cX2_addBowsTo 78 = .ok (.invokevirtual 32, 3) := by decide +kernel
theorem dX2_addBowsTo_81 : decode cX2_addBowsTo 81 = .ok (.goto (-79), 3) := by decide +kernel
theorem dX2_addBowsTo_84 : decode cX2_addBowsTo 84 = .ok (.return_, 1) := by decide +kernel
theorem dX3_init_0 : decode cX3_init 0 = .ok (.aload_n 0, 1) := by decide +kernel
theorem dX3_init_1 : decode cX3_init 1 = .ok (.invokespecial 3, 3) := by decide +kernel
theorem dX3_init_4 : decode cX3_init 4 = .ok (.aload_n 0, 1) := by decide +kernel
theorem dX3_init_5 : decode cX3_init 5 = .ok (.bipush 24, 2) := by decide +kernel
theorem dX3_init_7 : decode cX3_init 7 = .ok (.newarray .int, 2) := by decide +kernel
theorem dX3_init_9 : decode cX3_init 9 = .ok (.putfield 9, 3) := by decide +kernel
theorem dX3_init_12 : decode cX3_init 12 = .ok (.aload_n 0, 1) := by decide +kernel
theorem dX3_init_13 : decode cX3_init 13 = .ok (.iconst 0, 1) := by decide +kernel
theorem dX3_init_14 : decode cX3_init 14 = .ok (.putfield 15, 3) := by decide +kernel
theorem dX3_init_17 : decode cX3_init 17 = .ok (.aload_n 0, 1) := by decide +kernel
theorem dX3_init_18 : decode cX3_init 18 = .ok (.bipush 24, 2) := by decide +kernel
theorem dX3_init_20 : decode cX3_init 20 = .ok (.newarray .int, 2) := by decide +kernel
theorem dX3_init_22 : decode cX3_init 22 = .ok (.putfield 19, 3) := by decide +kernel
theorem dX3_init_25 : decode cX3_init 25 = .ok (.aload_n 0, 1) := by decide +kernel
theorem dX3_init_26 : decode cX3_init 26 = .ok (.iconst 0, 1) := by decide +kernel
theorem dX3_init_27 : decode cX3_init 27 = .ok (.putfield 22, 3) := by decide +kernel
theorem dX3_init_30 : decode cX3_init 30 = .ok (.aload_n 0, 1) := by decide +kernel
theorem dX3_init_31 : decode cX3_init 31 = .ok (.iconst 0, 1) := by decide +kernel
theorem dX3_init_32 : decode cX3_init 32 = .ok (.putfield 25, 3) := by decide +kernel
theorem dX3_init_35 : decode cX3_init 35 = .ok (.aload_n 0, 1) := by decide +kernel
theorem dX3_init_36 : decode cX3_init 36 = .ok (.iconst 0, 1) := by decide +kernel
theorem dX3_init_37 : decode cX3_init 37 = .ok (.putfield 28, 3) := by decide +kernel
theorem dX3_init_40 : decode cX3_init 40 = .ok (.aload_n 0, 1) := by decide +kernel
theorem dX3_init_41 : decode cX3_init 41 = .ok (.iconst 1, 1) := by decide +kernel
theorem dX3_init_42 : decode cX3_init 42 = .ok (.putfield 31, 3) := by decide +kernel
theorem dX3_init_45 : decode cX3_init 45 = .ok (.aload_n 0, 1) := by decide +kernel
theorem dX3_init_46 : decode cX3_init 46 = .ok (.iconst 0, 1) := by decide +kernel
theorem dX3_init_47 : decode cX3_init 47 = .ok (.putfield 34, 3) := by decide +kernel
theorem dX3_init_50 : decode cX3_init 50 = .ok (.return_, 1) := by decide +kernel
theorem dX3_look_0 : decode cX3_look 0 = .ok (.aload_n 0, 1) := by decide +kernel
theorem dX3_look_1 : decode cX3_look 1 = .ok (.aload_n 1, 1) := by decide +kernel
theorem dX3_look_2 : decode cX3_look 2 = .ok (.iload_n 2, 1) := by decide +kernel
theorem dX3_look_3 : decode cX3_look 3 = .ok (.invokevirtual 37, 3) := by decide +kernel
theorem dX3_look_6 : decode cX3_look 6 = .ok (.aload_n 0, 1) := by decide +kernel
theorem dX3_look_7 : decode cX3_look 7 = .ok (.invokevirtual 41, 3) := by decide +kernel
theorem dX3_look_10 : decode cX3_look 10 = .ok (.aload_n 0, 1) := by decide +kernel
theorem dX3_look_11 : decode cX3_look 11 = .ok (.aload_n 0, 1) := by decide +kernel
theorem dX3_look_12 : decode cX3_look 12 = .ok (.invokevirtual 44, 3) := by decide +kernel
theorem dX3_look_15 : decode cX3_look 15 = .ok (.putfield 31, 3) := by decide +kernel
theorem dX3_look_18 : decode cX3_look 18 = .ok (.aload_n 0, 1) := by decide +kernel
theorem dX3_look_19 : decode cX3_look 19 = .ok (.aload_n 0, 1) := by decide +kernel
theorem dX3_look_20 : decode cX3_look 20 = .ok (.getfield 31, 3) := by decide +kernel
theorem dX3_look_23 : decode cX3_look 23 = .ok (.ifCond .ne 12, 3) := by decide +kernel
theorem dX3_look_26 : decode cX3_look 26 = .ok (.aload_n 0, 1) := by decide +kernel
theorem dX3_look_27 : decode cX3_look 27 = .ok (.getfield 22, 3) := by decide +kernel
theorem dX3_look_30 : decode cX3_look 30 = .ok (.iconst 3, 1) := by decide +kernel
theorem dX3_look_31 : decode cX3_look 31 = .ok (.idiv, 1) := by decide +kernel
theorem dX3_look_32 : decode cX3_look 32 = .ok (.goto 4, 3) := by decide +kernel
theorem dX3_look_35 : decode cX3_look 35 = .ok (.iconst 0, 1) := by decide +kernel
theorem dX3_look_36 : decode cX3_look 36 = .ok (.putfield 34, 3) := by decide +kernel
theorem dX3_look_39 : decode cX3_look 39 = .ok (.return_, 1) := by decide +kernel
theorem dX3_findGroups_0 : decode cX3_findGroups 0 = .ok (.aload_n 0, 1) := by decide +kernel
theorem dX3_findGroups_1 : decode cX3_findGroups 1 = .ok (.iconst 0, 1) := by decide +kernel
theorem dX3_findGroups_2 : decode cX3_findGroups 2 = .ok (.putfield 15, 3) := by decide +kernel
theorem dX3_findGroups_5 : decode cX3_findGroups 5 = .ok (.iconst 0, 1) := by decide +kernel
theorem dX3_findGroups_6 : decode cX3_findGroups 6 = .ok (.istore_n 3, 1) := by decide +kernel
theorem dX3_findGroups_7 : decode cX3_findGroups 7 = .ok (.iconst 0, 1) := by decide +kernel
theorem dX3_findGroups_8 : decode cX3_findGroups 8 = .ok (.istore 4, 2) := by decide +kernel
theorem dX3_findGroups_10 : decode cX3_findGroups 10 = .ok (.iconst 0, 1) := by decide +kernel
theorem dX3_findGroups_11 : decode cX3_findGroups 11 = .ok (.istore 5, 2) := by decide +kernel
theorem dX3_findGroups_13 : decode cX3_findGroups 13 = .ok (.iload 5, 2) := by decide +kernel
theorem dX3_findGroups_15 : decode cX3_findGroups 15 = .ok (.aload_n 1, 1) := by decide +kernel
theorem dX3_findGroups_16 : decode cX3_findGroups 16 = .ok (.getfield 48, 3) := by decide +kernel
theorem dX3_findGroups_19 : decode cX3_findGroups 19 = .ok (.if_icmp .ge 90, 3) := by decide +kernel
theorem dX3_findGroups_22 : decode cX3_findGroups 22 = .ok (.iinc 3 1, 3) := by decide +kernel
theorem dX3_findGroups_25 : decode cX3_findGroups 25 = .ok (.bipush 6, 2) := by decide +kernel
theorem dX3_findGroups_27 : decode cX3_findGroups 27 = .ok (.iload 4, 2) := by decide +kernel
theorem dX3_findGroups_29 : decode cX3_findGroups 29 = .ok (.imul, 1) := by decide +kernel
theorem dX3_findGroups_30 : decode cX3_findGroups 30 = .ok (.aload_n 1, 1) := by decide +kernel
theorem dX3_findGroups_31 : decode cX3_findGroups 31 = .ok (.iload 5, 2) := by decide +kernel
theorem dX3_findGroups_33 : decode cX3_findGroups 33 = .ok (.invokevirtual 53, 3) := by decide +kernel
theorem dX3_findGroups_36 : decode cX3_findGroups 36 = .ok (.iload_n 2, 1) := by decide +kernel
theorem dX3_findGroups_37 : decode cX3_findGroups 37 = .ok (.invokestatic 57, 3) := by decide +kernel
theorem dX3_findGroups_40 : decode cX3_findGroups 40 = .ok (.iadd, 1) := by decide +kernel
theorem dX3_findGroups_41 : decode cX3_findGroups 41 = .ok (.istore 4, 2) := by decide +kernel
theorem dX3_findGroups_43 : decode cX3_findGroups 43 = .ok (.iload 5, 2) := by decide +kernel
theorem dX3_findGroups_45 : decode cX3_findGroups 45 = .ok (.aload_n 1, 1) := by decide +kernel
theorem dX3_findGroups_46 : decode cX3_findGroups 46 = .ok (.getfield 48, 3) := by decide +kernel
theorem dX3_findGroups_49 : decode cX3_findGroups 49 = .ok (.iconst 1, 1) := by decide +kernel
theorem dX3_findGroups_50 : decode cX3_findGroups 50 = .ok (.isub, 1) := by decide +kernel
theorem dX3_findGroups_51 : decode cX3_findGroups 51 = .ok (.if_icmp .ne 7, 3) := by decide +kernel
theorem dX3_findGroups_54 : decode cX3_findGroups 54 = .ok (.iconst 1, 1) := by decide +kernel
theorem dX3_findGroups_55 : decode cX3_findGroups 55 = .ok (.goto 4, 3) := by decide +kernel
theorem dX3_findGroups_58 : decode cX3_findGroups 58 = .ok (.iconst 0, 1) := by decide +kernel
theorem dX3_findGroups_59 : decode cX3_findGroups 59 = .ok (.istore 6, 2) := by decide +kernel
theorem dX3_findGroups_61 : decode cX3_findGroups 61 = .ok (.iload 6, 2) := by decide +kernel
theorem dX3_findGroups_63 : decode cX3_findGroups 63 = .ok (.ifCond .ne 25, 3) := by decide +kernel
theorem dX3_findGroups_66 : decode cX3_findGroups 66 = .ok (.aload_n 1, 1) := by decide +kernel
theorem dX3_findGroups_67 : decode cX3_findGroups 67 = .ok (.getfield 61, 3) := by decide +kernel
theorem dX3_findGroups_70 : decode cX3_findGroups 70 = .ok (.iload 5, 2) := by decide +kernel
theorem dX3_findGroups_72 : decode cX3_findGroups 72 = .ok (.invokestatic 64, 3) := by decide +kernel
theorem dX3_findGroups_75 : decode cX3_findGroups 75 = .ok (.iload_n 2, 1) := by decide +kernel
theorem dX3_findGroups_76 : decode cX3_findGroups 76 = .ok (.aload_n 1, 1) := by decide +kernel
theorem dX3_findGroups_77 : decode cX3_findGroups 77 = .ok (.getfield 68, 3) := by decide +kernel
theorem dX3_findGroups_80 : decode cX3_findGroups 80 = .ok (.iconst 0, 1) := by decide +kernel
theorem dX3_findGroups_81 : decode cX3_findGroups 81 = .ok (.iaload, 1) := by decide +kernel
theorem dX3_findGroups_82 : decode cX3_findGroups 82 = .ok (.invokestatic 71, 3) := by decide +kernel
theorem dX3_findGroups_85 : decode cX3_findGroups 85 = .ok (.ifCond .eq 18, 3) := by decide +kernel
theorem dX3_findGroups_88 : decode cX3_findGroups 88 = .ok (.aload_n 0, 1) := by decide +kernel
theorem dX3_findGroups_89 : decode cX3_findGroups 89 = .ok (.iload_n 3, 1) := by decide +kernel
theorem dX3_findGroups_90 : decode cX3_findGroups 90 = .ok (.iload 4, 2) := by decide +kernel
theorem dX3_findGroups_92 : decode cX3_findGroups 92 = .ok (.invokestatic 75, 3) := by decide +kernel
theorem dX3_findGroups_95 : decode cX3_findGroups 95 = .ok (.invokevirtual 78, 3) := by decide +kernel
theorem dX3_findGroups_98 : decode cX3_findGroups 98 = .ok (.iconst 0, 1) := by decide +kernel
theorem dX3_findGroups_99 : decode cX3_findGroups 99 = .ok (.istore_n 3, 1) := by decide +kernel
theorem dX3_findGroups_100 : decode cX3_findGroups 100 = .ok (.iconst 0, 1) := by decide +kernel
theorem dX3_findGroups_101 : decode cX3_findGroups 101 = .ok (.istore 4, 2) := by decide +kernel
theorem dX3_findGroups_103 : decode cX3_findGroups 103 = .ok (.iinc 5 1, 3) := by decide +kernel
theorem dX3_findGroups_106 : decode cX3_findGroups 106 = .ok (.goto (-93), 3) := by decide +kernel
theorem dX3_findGroups_109 : decode cX3_findGroups 109 = .ok (.return_, 1) := by decide +kernel
theorem dX3_seenNumber_0 : decode cX3_seenNumber 0 = .ok (.iload_n 0, 1) := by decide +kernel
theorem dX3_seenNumber_1 : decode cX3_seenNumber 1 = .ok (.iconst 3, 1) := by decide +kernel
theorem dX3_seenNumber_2 : decode cX3_seenNumber 2 = .ok (.iconst 0, 1) := by decide +kernel
theorem dX3_seenNumber_3 : decode cX3_seenNumber 3 = .ok (.invokestatic 82, 3) := by decide +kernel
theorem dX3_seenNumber_6 : decode cX3_seenNumber 6 = .ok (.if_icmp .lt 7, 3) := by decide +kernel
theorem dX3_seenNumber_9 : decode cX3_seenNumber 9 = .ok (.iconst 1, 1) := by decide +kernel
theorem dX3_seenNumber_10 : decode cX3_seenNumber 10 = .ok (.goto 4, 3) := by decide +kernel
theorem dX3_seenNumber_13 : decode cX3_seenNumber 13 = .ok (.iconst 0, 1) := by decide +kernel
theorem dX3_seenNumber_14 : decode cX3_seenNumber 14 = .ok (.istore_n 2, 1) := by decide +kernel
theorem dX3_seenNumber_15 : decode cX3_seenNumber 15 = .ok (.iload_n 1, 1) := by decide +kernel
theorem dX3_seenNumber_16 : decode cX3_seenNumber 16 = .ok (.iconst 1, 1) := by decide +kernel
theorem dX3_seenNumber_17 : decode cX3_seenNumber 17 = .ok (.if_icmp .ne 13, 3) := by decide +kernel
theorem dX3_seenNumber_20 : decode cX3_seenNumber 20 = .ok (.iload_n 2, 1) := by decide +kernel
theorem dX3_seenNumber_21 : decode cX3_seenNumber 21 = .ok (.ifCond .eq 9, 3) := by decide +kernel
theorem dX3_seenNumber_24 : decode cX3_seenNumber 24 = .ok (.iload_n 0, 1) := by decide +kernel
theorem dX3_seenNumber_25 : decode cX3_seenNumber 25 = .ok (.iconst 2, 1) := by decide +kernel
theorem dX3_seenNumber_26 : decode cX3_seenNumber 26 = .ok (.isub, 1) := by decide +kernel
theorem dX3_seenNumber_27 : decode cX3_seenNumber 27 = .ok (.goto 4, 3) := by decide +kernel
theorem dX3_seenNumber_30 : decode cX3_seenNumber 30 = .ok (.iload_n 0, 1) := by decide +kernel
theorem dX3_seenNumber_31 : decode cX3_seenNumber 31 = .ok (.ireturn, 1) := by decide +kernel
theorem dX3_seenAsBreak_0 : decode cX3_seenAsBreak 0 = .ok (.iload_n 0, 1) := by decide +kernel
theorem dX3_seenAsBreak_1 : decode cX3_seenAsBreak 1 = .ok (.iload_n 2, 1) := by decide +kernel
theorem dX3_seenAsBreak_2 : decode cX3_seenAsBreak 2 = .ok (.if_icmp .ge 13, 3) := by decide +kernel
theorem dX3_seenAsBreak_5 : decode cX3_seenAsBreak 5 = .ok (.iload_n 1, 1) := by decide +kernel
theorem dX3_seenAsBreak_6 : decode cX3_seenAsBreak 6 = .ok (.iconst 2, 1) := by decide +kernel
theorem dX3_seenAsBreak_7 : decode cX3_seenAsBreak 7 = .ok (.if_icmp .ne 12, 3) := by decide +kernel
theorem dX3_seenAsBreak_10 : decode cX3_seenAsBreak 10 = .ok (.iload_n 0, 1) := by decide +kernel
theorem dX3_seenAsBreak_11 : decode cX3_seenAsBreak 11 = .ok (.iconst 1, 1) := by decide +kernel
theorem dX3_seenAsBreak_12 : decode cX3_seenAsBreak 12 = .ok (.if_icmp .lt 7, 3) := by decide +kernel
theorem dX3_seenAsBreak_15 : decode cX3_seenAsBreak 15 = .ok (.iconst 1, 1) := by decide +kernel
theorem dX3_seenAsBreak_16 : decode cX3_seenAsBreak 16 = .ok (.goto 4, 3) := by decide +kernel
theorem dX3_seenAsBreak_19 : decode cX3_seenAsBreak 19 = .ok (.iconst 0, 1) := by decide +kernel
theorem dX3_seenAsBreak_20 : decode cX3_seenAsBreak 20 = .ok (.ireturn, 1) := by decide +kernel
theorem dX3_wordOf_0 : decode cX3_wordOf 0 = .ok (.iload_n 0, 1) := by decide +kernel
theorem dX3_wordOf_1 : decode cX3_wordOf 1 = .ok (.tableswitch 39 1 3 #[27, 29, 34], 27) := by decide +kernel
theorem dX3_wordOf_28 : decode cX3_wordOf 28 = .ok (.iload_n 1, 1) := by decide +kernel
theorem dX3_wordOf_29 : decode cX3_wordOf 29 = .ok (.ireturn, 1) := by decide +kernel
theorem dX3_wordOf_30 : decode cX3_wordOf 30 = .ok (.bipush 6, 2) := by decide +kernel
theorem dX3_wordOf_32 : decode cX3_wordOf 32 = .ok (.iload_n 1, 1) := by decide +kernel
theorem dX3_wordOf_33 : decode cX3_wordOf 33 = .ok (.iadd, 1) := by decide +kernel
theorem dX3_wordOf_34 : decode cX3_wordOf 34 = .ok (.ireturn, 1) := by decide +kernel
theorem dX3_wordOf_35 : decode cX3_wordOf 35 = .ok (.bipush 42, 2) := by decide +kernel
theorem dX3_wordOf_37 : decode cX3_wordOf 37 = .ok (.iload_n 1, 1) := by decide +kernel
theorem dX3_wordOf_38 : decode cX3_wordOf 38 = .ok (.iadd, 1) := by decide +kernel
theorem dX3_wordOf_39 : decode cX3_wordOf 39 = .ok (.ireturn, 1) := by decide +kernel
theorem dX3_wordOf_40 : decode cX3_wordOf 40 = .ok (.ldc 85, 2) := by decide +kernel
theorem dX3_wordOf_42 : decode cX3_wordOf 42 = .ok (.ireturn, 1) := by decide +kernel
theorem dX3_addGroup_0 : decode cX3_addGroup 0 = .ok (.aload_n 0, 1) := by decide +kernel
theorem dX3_addGroup_1 : decode cX3_addGroup 1 = .ok (.getfield 15, 3) := by decide +kernel
theorem dX3_addGroup_4 : decode cX3_addGroup 4 = .ok (.ifCond .lt 32, 3) := by decide +kernel
theorem dX3_addGroup_7 : decode cX3_addGroup 7 = .ok (.aload_n 0, 1) := by decide +kernel
theorem dX3_addGroup_8 : decode cX3_addGroup 8 = .ok (.getfield 15, 3) := by decide +kernel
theorem dX3_addGroup_11 : decode cX3_addGroup 11 = .ok (.bipush 24, 2) := by decide +kernel
theorem dX3_addGroup_13 : decode cX3_addGroup 13 = .ok (.if_icmp .ge 23, 3) := by decide +kernel
theorem dX3_addGroup_16 : decode cX3_addGroup 16 = .ok (.aload_n 0, 1) := by decide +kernel
theorem dX3_addGroup_17 : decode cX3_addGroup 17 = .ok (.getfield 9, 3) := by decide +kernel
theorem dX3_addGroup_20 : decode cX3_addGroup 20 = .ok (.aload_n 0, 1) := by decide +kernel
theorem dX3_addGroup_21 : decode cX3_addGroup 21 = .ok (.getfield 15, 3) := by decide +kernel
theorem dX3_addGroup_24 : decode cX3_addGroup 24 = .ok (.iload_n 1, 1) := by decide +kernel
theorem dX3_addGroup_25 : decode cX3_addGroup 25 = .ok (.iastore, 1) := by decide +kernel
theorem dX3_addGroup_26 : decode cX3_addGroup 26 = .ok (.aload_n 0, 1) := by decide +kernel
theorem dX3_addGroup_27 : decode cX3_addGroup 27 = .ok (.dup, 1) := by decide +kernel
theorem dX3_addGroup_28 : decode cX3_addGroup 28 = .ok (.getfield 15, 3) := by decide +kernel
theorem dX3_addGroup_31 : decode cX3_addGroup 31 = .ok (.iconst 1, 1) := by decide +kernel
theorem dX3_addGroup_32 : decode cX3_addGroup 32 = .ok (.iadd, 1) := by decide +kernel
theorem dX3_addGroup_33 : decode cX3_addGroup 33 = .ok (.putfield 15, 3) := by decide +kernel
theorem dX3_addGroup_36 : decode cX3_addGroup 36 = .ok (.return_, 1) := by decide +kernel
theorem dX3_leaveOutFlourishes_0 : decode cX3_leaveOutFlourishes 0 = .ok (.aload_n 0, 1) := by decide +kernel
theorem dX3_leaveOutFlourishes_1 : decode cX3_leaveOutFlourishes 1 = .ok (.iconst 0, 1) := by decide +kernel
theorem dX3_leaveOutFlourishes_2 : decode cX3_leaveOutFlourishes 2 = .ok (.putfield 25, 3) := by decide +kernel
theorem dX3_leaveOutFlourishes_5 : decode cX3_leaveOutFlourishes 5 = .ok (.aload_n 0, 1) := by decide +kernel
theorem dX3_leaveOutFlourishes_6 : decode cX3_leaveOutFlourishes 6 = .ok (.iconst 0, 1) := by decide +kernel
theorem dX3_leaveOutFlourishes_7 : decode cX3_leaveOutFlourishes 7 = .ok (.putfield 28, 3) := by decide +kernel
theorem dX3_leaveOutFlourishes_10 : decode cX3_leaveOutFlourishes 10 = .ok (.aload_n 0, 1) := by decide +kernel
theorem dX3_leaveOutFlourishes_11 : decode cX3_leaveOutFlourishes 11 = .ok (.iconst 0, 1) := by decide +kernel
theorem dX3_leaveOutFlourishes_12 : decode cX3_leaveOutFlourishes 12 = .ok (.putfield 22, 3) := by decide +kernel
theorem dX3_leaveOutFlourishes_15 : decode cX3_leaveOutFlourishes 15 = .ok (.iconst 0, 1) := by decide +kernel
theorem dX3_leaveOutFlourishes_16 : decode cX3_leaveOutFlourishes 16 = .ok (.istore_n 1, 1) := by decide +kernel
theorem dX3_leaveOutFlourishes_17 : decode cX3_leaveOutFlourishes 17 = .ok (.iload_n 1, 1) := by decide +kernel
theorem dX3_leaveOutFlourishes_18 : decode cX3_leaveOutFlourishes 18 = .ok (.aload_n 0, 1) := by decide +kernel
theorem dX3_leaveOutFlourishes_19 : decode cX3_leaveOutFlourishes 19 = .ok (.getfield 15, 3) := by decide +kernel
theorem dX3_leaveOutFlourishes_22 : decode cX3_leaveOutFlourishes 22 = .ok (.if_icmp .ge 62, 3) := by decide +kernel
theorem dX3_leaveOutFlourishes_25 : decode cX3_leaveOutFlourishes 25 = .ok (.aload_n 0, 1) := by decide +kernel
theorem dX3_leaveOutFlourishes_26 : decode cX3_leaveOutFlourishes 26 = .ok (.getfield 9, 3) := by decide +kernel
theorem dX3_leaveOutFlourishes_29 : decode cX3_leaveOutFlourishes 29 = .ok (.iload_n 1, 1) := by decide +kernel
theorem dX3_leaveOutFlourishes_30 : decode cX3_leaveOutFlourishes 30 = .ok (.invokestatic 64, 3) := by decide +kernel
theorem dX3_leaveOutFlourishes_33 : decode cX3_leaveOutFlourishes 33 = .ok (.istore_n 2, 1) := by decide +kernel
theorem dX3_leaveOutFlourishes_34 : decode cX3_leaveOutFlourishes 34 = .ok (.iload_n 2, 1) := by decide +kernel
theorem dX3_leaveOutFlourishes_35 : decode cX3_leaveOutFlourishes 35 = .ok (.ldc 85, 2) := by decide +kernel
theorem dX3_leaveOutFlourishes_37 : decode cX3_leaveOutFlourishes 37 = .ok (.if_icmp .ne 16, 3) := by decide +kernel
theorem dX3_leaveOutFlourishes_40 : decode cX3_leaveOutFlourishes 40 = .ok (.aload_n 0, 1) := by decide +kernel
theorem dX3_leaveOutFlourishes_41 : decode cX3_leaveOutFlourishes 41 = .ok (.dup, 1) := by decide +kernel
theorem dX3_leaveOutFlourishes_42 : decode cX3_leaveOutFlourishes 42 = .ok (.getfield 28, 3) := by decide +kernel
theorem dX3_leaveOutFlourishes_45 : decode cX3_leaveOutFlourishes 45 = .ok (.iconst 1, 1) := by decide +kernel
theorem dX3_leaveOutFlourishes_46 : decode cX3_leaveOutFlourishes 46 = .ok (.iadd, 1) := by decide +kernel
theorem dX3_leaveOutFlourishes_47 : decode cX3_leaveOutFlourishes 47 = .ok (.putfield 28, 3) := by decide +kernel
theorem dX3_leaveOutFlourishes_50 : decode cX3_leaveOutFlourishes 50 = .ok (.goto 28, 3) := by decide +kernel
theorem dX3_leaveOutFlourishes_53 : decode cX3_leaveOutFlourishes 53 = .ok (.iload_n 2, 1) := by decide +kernel
theorem dX3_leaveOutFlourishes_54 : decode cX3_leaveOutFlourishes 54 = .ok (.invokestatic 86, 3) := by decide +kernel
theorem dX3_leaveOutFlourishes_57 : decode cX3_leaveOutFlourishes 57 = .ok (.ifCond .eq 16, 3) := by decide +kernel
theorem dX3_leaveOutFlourishes_60 : decode cX3_leaveOutFlourishes 60 = .ok (.aload_n 0, 1) := by decide +kernel
theorem dX3_leaveOutFlourishes_61 : decode cX3_leaveOutFlourishes 61 = .ok (.dup, 1) := by decide +kernel
theorem dX3_leaveOutFlourishes_62 : decode cX3_leaveOutFlourishes 62 = .ok (.getfield 25, 3) := by decide +kernel
theorem dX3_leaveOutFlourishes_65 : decode cX3_leaveOutFlourishes 65 = .ok (.iconst 1, 1) := by decide +kernel
theorem dX3_leaveOutFlourishes_66 : decode cX3_leaveOutFlourishes 66 = .ok (.iadd, 1) := by decide +kernel
theorem dX3_leaveOutFlourishes_67 : decode cX3_leaveOutFlourishes 67 = .ok (.putfield 25, 3) := by decide +kernel
theorem dX3_leaveOutFlourishes_70 : decode cX3_leaveOutFlourishes 70 = .ok (.goto 8, 3) := by decide +kernel
theorem dX3_leaveOutFlourishes_73 : decode cX3_leaveOutFlourishes 73 = .ok (.aload_n 0, 1) := by decide +kernel
theorem dX3_leaveOutFlourishes_74 : decode cX3_leaveOutFlourishes 74 = .ok (.iload_n 2, 1) := by decide +kernel
theorem dX3_leaveOutFlourishes_75 : decode cX3_leaveOutFlourishes 75 = .ok (.invokevirtual 90, 3) := by decide +kernel
theorem dX3_leaveOutFlourishes_78 : decode cX3_leaveOutFlourishes 78 = .ok (.iinc 1 1, 3) := by decide +kernel
theorem dX3_leaveOutFlourishes_81 : decode cX3_leaveOutFlourishes 81 = .ok (.goto (-64), 3) := by decide +kernel
theorem dX3_leaveOutFlourishes_84 : decode cX3_leaveOutFlourishes 84 = .ok (.return_, 1) := by decide +kernel
theorem dX3_keep_0 : decode cX3_keep 0 = .ok (.aload_n 0, 1) := by decide +kernel
theorem dX3_keep_1 : decode cX3_keep 1 = .ok (.getfield 22, 3) := by decide +kernel
theorem dX3_keep_4 : decode cX3_keep 4 = .ok (.ifCond .lt 32, 3) := by decide +kernel
theorem dX3_keep_7 : decode cX3_keep 7 = .ok (.aload_n 0, 1) := by decide +kernel
theorem dX3_keep_8 : decode cX3_keep 8 = .ok (.getfield 22, 3) := by decide +kernel
theorem dX3_keep_11 : decode cX3_keep 11 = .ok (.bipush 24, 2) := by decide +kernel
theorem dX3_keep_13 : decode cX3_keep 13 = .ok (.if_icmp .ge 23, 3) := by decide +kernel
theorem dX3_keep_16 : decode cX3_keep 16 = .ok (.aload_n 0, 1) := by decide +kernel
theorem dX3_keep_17 : decode cX3_keep 17 = .ok (.getfield 19, 3) := by decide +kernel
theorem dX3_keep_20 : decode cX3_keep 20 = .ok (.aload_n 0, 1) := by decide +kernel
theorem dX3_keep_21 : decode cX3_keep 21 = .ok (.getfield 22, 3) := by decide +kernel
theorem dX3_keep_24 : decode cX3_keep 24 = .ok (.iload_n 1, 1) := by decide +kernel
theorem dX3_keep_25 : decode cX3_keep 25 = .ok (.iastore, 1) := by decide +kernel
theorem dX3_keep_26 : decode cX3_keep 26 = .ok (.aload_n 0, 1) := by decide +kernel
theorem dX3_keep_27 : decode cX3_keep 27 = .ok (.dup, 1) := by decide +kernel
theorem dX3_keep_28 : decode cX3_keep 28 = .ok (.getfield 22, 3) := by decide +kernel
theorem dX3_keep_31 : decode cX3_keep 31 = .ok (.iconst 1, 1) := by decide +kernel
theorem dX3_keep_32 : decode cX3_keep 32 = .ok (.iadd, 1) := by decide +kernel
theorem dX3_keep_33 : decode cX3_keep 33 = .ok (.putfield 22, 3) := by decide +kernel
theorem dX3_keep_36 : decode cX3_keep 36 = .ok (.return_, 1) := by decide +kernel
theorem dX3_findReason_0 : decode cX3_findReason 0 = .ok (.aload_n 0, 1) := by decide +kernel
theorem dX3_findReason_1 : decode cX3_findReason 1 = .ok (.getfield 15, 3) := by decide +kernel
theorem dX3_findReason_4 : decode cX3_findReason 4 = .ok (.ifCond .ne 5, 3) := by decide +kernel
theorem dX3_findReason_7 : decode cX3_findReason 7 = .ok (.iconst 1, 1) := by decide +kernel
theorem dX3_findReason_8 : decode cX3_findReason 8 = .ok (.ireturn, 1) := by decide +kernel
theorem dX3_findReason_9 : decode cX3_findReason 9 = .ok (.aload_n 0, 1) := by decide +kernel
theorem dX3_findReason_10 : decode cX3_findReason 10 = .ok (.getfield 28, 3) := by decide +kernel
theorem dX3_findReason_13 : decode cX3_findReason 13 = .ok (.ifCond .le 5, 3) := by decide +kernel
theorem dX3_findReason_16 : decode cX3_findReason 16 = .ok (.iconst 2, 1) := by decide +kernel
theorem dX3_findReason_17 : decode cX3_findReason 17 = .ok (.ireturn, 1) := by decide +kernel
theorem dX3_findReason_18 : decode cX3_findReason 18 = .ok (.aload_n 0, 1) := by decide +kernel
theorem dX3_findReason_19 : decode cX3_findReason 19 = .ok (.getfield 22, 3) := by decide +kernel
theorem dX3_findReason_22 : decode cX3_findReason 22 = .ok (.ifCond .eq 12, 3) := by decide +kernel
theorem dX3_findReason_25 : decode cX3_findReason 25 = .ok (.aload_n 0, 1) := by decide +kernel
theorem dX3_findReason_26 : decode cX3_findReason 26 = .ok (.getfield 22, 3) := by decide +kernel
theorem dX3_findReason_29 : decode cX3_findReason 29 = .ok (.iconst 3, 1) := by decide +kernel
theorem dX3_findReason_30 : decode cX3_findReason 30 = .ok (.irem, 1) := by decide +kernel
theorem dX3_findReason_31 : decode cX3_findReason 31 = .ok (.ifCond .eq 5, 3) := by decide +kernel
theorem dX3_findReason_34 : decode cX3_findReason 34 = .ok (.iconst 3, 1) := by decide +kernel
theorem dX3_findReason_35 : decode cX3_findReason 35 = .ok (.ireturn, 1) := by decide +kernel
theorem dX3_findReason_36 : decode cX3_findReason 36 = .ok (.iconst 0, 1) := by decide +kernel
theorem dX3_findReason_37 : decode cX3_findReason 37 = .ok (.istore_n 1, 1) := by decide +kernel
theorem dX3_findReason_38 : decode cX3_findReason 38 = .ok (.iconst 0, 1) := by decide +kernel
theorem dX3_findReason_39 : decode cX3_findReason 39 = .ok (.istore_n 2, 1) := by decide +kernel
theorem dX3_findReason_40 : decode cX3_findReason 40 = .ok (.iload_n 2, 1) := by decide +kernel
theorem dX3_findReason_41 : decode cX3_findReason 41 = .ok (.aload_n 0, 1) := by decide +kernel
theorem dX3_findReason_42 : decode cX3_findReason 42 = .ok (.getfield 22, 3) := by decide +kernel
theorem dX3_findReason_45 : decode cX3_findReason 45 = .ok (.iconst 3, 1) := by decide +kernel
theorem dX3_findReason_46 : decode cX3_findReason 46 = .ok (.idiv, 1) := by decide +kernel
theorem dX3_findReason_47 : decode cX3_findReason 47 = .ok (.if_icmp .ge 42, 3) := by decide +kernel
theorem dX3_findReason_50 : decode cX3_findReason 50 = .ok (.aload_n 0, 1) := by decide +kernel
theorem dX3_findReason_51 : decode cX3_findReason 51 = .ok (.iload_n 2, 1) := by decide +kernel
theorem dX3_findReason_52 : decode cX3_findReason 52 = .ok (.invokevirtual 93, 3) := by decide +kernel
theorem dX3_findReason_55 : decode cX3_findReason 55 = .ok (.ifCond .ne 5, 3) := by decide +kernel
theorem dX3_findReason_58 : decode cX3_findReason 58 = .ok (.iconst 4, 1) := by decide +kernel
theorem dX3_findReason_59 : decode cX3_findReason 59 = .ok (.ireturn, 1) := by decide +kernel
theorem dX3_findReason_60 : decode cX3_findReason 60 = .ok (.iload_n 1, 1) := by decide +kernel
theorem dX3_findReason_61 : decode cX3_findReason 61 = .ok (.aload_n 0, 1) := by decide +kernel
theorem dX3_findReason_62 : decode cX3_findReason 62 = .ok (.iload_n 2, 1) := by decide +kernel
theorem dX3_findReason_63 : decode cX3_findReason 63 = .ok (.iconst 0, 1) := by decide +kernel
theorem dX3_findReason_64 : decode cX3_findReason 64 = .ok (.invokevirtual 96, 3) := by decide +kernel
theorem dX3_findReason_67 : decode cX3_findReason 67 = .ok (.aload_n 0, 1) := by decide +kernel
theorem dX3_findReason_68 : decode cX3_findReason 68 = .ok (.iload_n 2, 1) := by decide +kernel
theorem dX3_findReason_69 : decode cX3_findReason 69 = .ok (.iconst 2, 1) := by decide +kernel
theorem dX3_findReason_70 : decode cX3_findReason 70 = .ok (.invokevirtual 96, 3) := by decide +kernel
theorem dX3_findReason_73 : decode cX3_findReason 73 = .ok (.if_icmp .ne 7, 3) := by decide +kernel
theorem dX3_findReason_76 : decode cX3_findReason 76 = .ok (.iconst 1, 1) := by decide +kernel
theorem dX3_findReason_77 : decode cX3_findReason 77 = .ok (.goto 4, 3) := by decide +kernel
theorem dX3_findReason_80 : decode cX3_findReason 80 = .ok (.iconst 0, 1) := by decide +kernel
theorem dX3_findReason_81 : decode cX3_findReason 81 = .ok (.ior, 1) := by decide +kernel
theorem dX3_findReason_82 : decode cX3_findReason 82 = .ok (.istore_n 1, 1) := by decide +kernel
theorem dX3_findReason_83 : decode cX3_findReason 83 = .ok (.iinc 2 1, 3) := by decide +kernel
theorem dX3_findReason_86 : decode cX3_findReason 86 = .ok (.goto (-46), 3) := by decide +kernel
theorem dX3_findReason_89 : decode cX3_findReason 89 = .ok (.iload_n 1, 1) := by decide +kernel
theorem dX3_findReason_90 : decode cX3_findReason 90 = .ok (.ifCond .eq 7, 3) := by decide +kernel
theorem dX3_findReason_93 : decode cX3_findReason 93 = .ok (.iconst 5, 1) := by decide +kernel
theorem dX3_findReason_94 : decode cX3_findReason 94 = .ok (.goto 4, 3) := by decide +kernel
theorem dX3_findReason_97 : decode cX3_findReason 97 = .ok (.iconst 0, 1) := by decide +kernel
theorem dX3_findReason_98 : decode cX3_findReason 98 = .ok (.ireturn, 1) := by decide +kernel
theorem dX3_isInOrder_0 : decode cX3_isInOrder 0 = .ok (.aload_n 0, 1) := by decide +kernel
theorem dX3_isInOrder_1 : decode cX3_isInOrder 1 = .ok (.iload_n 1, 1) := by decide +kernel
theorem dX3_isInOrder_2 : decode cX3_isInOrder 2 = .ok (.iconst 0, 1) := by decide +kernel
theorem dX3_isInOrder_3 : decode cX3_isInOrder 3 = .ok (.invokevirtual 96, 3) := by decide +kernel
theorem dX3_isInOrder_6 : decode cX3_isInOrder 6 = .ok (.invokestatic 99, 3) := by decide +kernel
theorem dX3_isInOrder_9 : decode cX3_isInOrder 9 = .ok (.ifCond .eq 31, 3) := by decide +kernel
theorem dX3_isInOrder_12 : decode cX3_isInOrder 12 = .ok (.aload_n 0, 1) := by decide +kernel
theorem dX3_isInOrder_13 : decode cX3_isInOrder 13 = .ok (.iload_n 1, 1) := by decide +kernel
theorem dX3_isInOrder_14 : decode cX3_isInOrder 14 = .ok (.iconst 1, 1) := by decide +kernel
theorem dX3_isInOrder_15 : decode cX3_isInOrder 15 = .ok (.invokevirtual 96, 3) := by decide +kernel
theorem dX3_isInOrder_18 : decode cX3_isInOrder 18 = .ok (.invokestatic 102, 3) := by decide +kernel
theorem dX3_isInOrder_21 : decode cX3_isInOrder 21 = .ok (.ifCond .eq 19, 3) := by decide +kernel
theorem dX3_isInOrder_24 : decode cX3_isInOrder 24 = .ok (.aload_n 0, 1) := by decide +kernel
theorem dX3_isInOrder_25 : decode cX3_isInOrder 25 = .ok (.iload_n 1, 1) := by decide +kernel
theorem dX3_isInOrder_26 : decode cX3_isInOrder 26 = .ok (.iconst 2, 1) := by decide +kernel
theorem dX3_isInOrder_27 : decode cX3_isInOrder 27 = .ok (.invokevirtual 96, 3) := by decide +kernel
theorem dX3_isInOrder_30 : decode cX3_isInOrder 30 = .ok (.invokestatic 99, 3) := by decide +kernel
theorem dX3_isInOrder_33 : decode cX3_isInOrder 33 = .ok (.ifCond .eq 7, 3) := by decide +kernel
theorem dX3_isInOrder_36 : decode cX3_isInOrder 36 = .ok (.iconst 1, 1) := by decide +kernel
theorem dX3_isInOrder_37 : decode cX3_isInOrder 37 = .ok (.goto 4, 3) := by decide +kernel
theorem dX3_isInOrder_40 : decode cX3_isInOrder 40 = .ok (.iconst 0, 1) := by decide +kernel
theorem dX3_isInOrder_41 : decode cX3_isInOrder 41 = .ok (.ireturn, 1) := by decide +kernel
theorem dX3_part_0 : decode cX3_part 0 = .ok (.iconst 3, 1) := by decide +kernel
theorem dX3_part_1 : decode cX3_part 1 = .ok (.iload_n 1, 1) := by decide +kernel
theorem dX3_part_2 : decode cX3_part 2 = .ok (.imul, 1) := by decide +kernel
theorem dX3_part_3 : decode cX3_part 3 = .ok (.iload_n 2, 1) := by decide +kernel
theorem dX3_part_4 : decode cX3_part 4 = .ok (.iadd, 1) := by decide +kernel
theorem dX3_part_5 : decode cX3_part 5 = .ok (.istore_n 3, 1) := by decide +kernel
theorem dX3_part_6 : decode cX3_part 6 = .ok (.iload_n 3, 1) := by decide +kernel
theorem dX3_part_7 : decode cX3_part 7 = .ok (.ifCond .lt 18, 3) := by decide +kernel
theorem dX3_part_10 : decode cX3_part 10 = .ok (.iload_n 3, 1) := by decide +kernel
theorem dX3_part_11 : decode cX3_part 11 = .ok (.bipush 24, 2) := by decide +kernel
theorem dX3_part_13 : decode cX3_part 13 = .ok (.if_icmp .ge 12, 3) := by decide +kernel
theorem dX3_part_16 : decode cX3_part 16 = .ok (.aload_n 0, 1) := by decide +kernel
theorem dX3_part_17 : decode cX3_part 17 = .ok (.getfield 19, 3) := by decide +kernel
theorem dX3_part_20 : decode cX3_part 20 = .ok (.iload_n 3, 1) := by decide +kernel
theorem dX3_part_21 : decode cX3_part 21 = .ok (.iaload, 1) := by decide +kernel
theorem dX3_part_22 : decode cX3_part 22 = .ok (.goto 4, 3) := by decide +kernel
theorem dX3_part_25 : decode cX3_part 25 = .ok (.iconst 0, 1) := by decide +kernel
theorem dX3_part_26 : decode cX3_part 26 = .ok (.ireturn, 1) := by decide +kernel
theorem dX3_isKind_0 : decode cX3_isKind 0 = .ok (.aload_n 0, 1) := by decide +kernel
theorem dX3_isKind_1 : decode cX3_isKind 1 = .ok (.iload_n 1, 1) := by decide +kernel
theorem dX3_isKind_2 : decode cX3_isKind 2 = .ok (.iconst 1, 1) := by decide +kernel
theorem dX3_isKind_3 : decode cX3_isKind 3 = .ok (.invokevirtual 96, 3) := by decide +kernel
theorem dX3_isKind_6 : decode cX3_isKind 6 = .ok (.iconst 2, 1) := by decide +kernel
theorem dX3_isKind_7 : decode cX3_isKind 7 = .ok (.irem, 1) := by decide +kernel
theorem dX3_isKind_8 : decode cX3_isKind 8 = .ok (.ifCond .ne 7, 3) := by decide +kernel
theorem dX3_isKind_11 : decode cX3_isKind 11 = .ok (.iconst 1, 1) := by decide +kernel
theorem dX3_isKind_12 : decode cX3_isKind 12 = .ok (.goto 4, 3) := by decide +kernel
theorem dX3_isKind_15 : decode cX3_isKind 15 = .ok (.iconst 0, 1) := by decide +kernel
theorem dX3_isKind_16 : decode cX3_isKind 16 = .ok (.ireturn, 1) := by decide +kernel
theorem dX3_saysTheSameAs_0 : decode cX3_saysTheSameAs 0 = .ok (.aload_n 0, 1) := by decide +kernel
theorem dX3_saysTheSameAs_1 : decode cX3_saysTheSameAs 1 = .ok (.getfield 34, 3) := by decide +kernel
theorem dX3_saysTheSameAs_4 : decode cX3_saysTheSameAs 4 = .ok (.aload_n 1, 1) := by decide +kernel
theorem dX3_saysTheSameAs_5 : decode cX3_saysTheSameAs 5 = .ok (.getfield 34, 3) := by decide +kernel
theorem dX3_saysTheSameAs_8 : decode cX3_saysTheSameAs 8 = .ok (.if_icmp .eq 5, 3) := by decide +kernel
theorem dX3_saysTheSameAs_11 : decode cX3_saysTheSameAs 11 = .ok (.iconst 0, 1) := by decide +kernel
theorem dX3_saysTheSameAs_12 : decode cX3_saysTheSameAs 12 = .ok (.ireturn, 1) := by decide +kernel
theorem dX3_saysTheSameAs_13 : decode cX3_saysTheSameAs 13 = .ok (.iconst 0, 1) := by decide +kernel
theorem dX3_saysTheSameAs_14 : decode cX3_saysTheSameAs 14 = .ok (.istore_n 2, 1) := by decide +kernel
theorem dX3_saysTheSameAs_15 : decode cX3_saysTheSameAs 15 = .ok (.iload_n 2, 1) := by decide +kernel
theorem dX3_saysTheSameAs_16 : decode cX3_saysTheSameAs 16 = .ok (.iconst 3, 1) := by decide +kernel
theorem dX3_saysTheSameAs_17 : decode cX3_saysTheSameAs 17 = .ok (.aload_n 0, 1) := by decide +kernel
theorem dX3_saysTheSameAs_18 : decode cX3_saysTheSameAs 18 = .ok (.getfield 34, 3) := by decide +kernel
theorem dX3_saysTheSameAs_21 : decode cX3_saysTheSameAs 21 = .ok (.imul, 1) := by decide +kernel
theorem dX3_saysTheSameAs_22 : decode cX3_saysTheSameAs 22 = .ok (.if_icmp .ge 30, 3) := by decide +kernel
theorem dX3_saysTheSameAs_25 : decode cX3_saysTheSameAs 25 = .ok (.aload_n 0, 1) := by decide +kernel
theorem dX3_saysTheSameAs_26 : decode cX3_saysTheSameAs 26 = .ok (.getfield 19, 3) := by decide +kernel
theorem dX3_saysTheSameAs_29 : decode cX3_saysTheSameAs 29 = .ok (.iload_n 2, 1) := by decide +kernel
theorem dX3_saysTheSameAs_30 : decode cX3_saysTheSameAs 30 = .ok (.invokestatic 64, 3) := by decide +kernel
theorem dX3_saysTheSameAs_33 : decode cX3_saysTheSameAs 33 = .ok (.aload_n 1, 1) := by decide +kernel
theorem dX3_saysTheSameAs_34 : decode cX3_saysTheSameAs 34 = .ok (.getfield 19, 3) := by decide +kernel
theorem dX3_saysTheSameAs_37 : decode cX3_saysTheSameAs 37 = .ok (.iload_n 2, 1) := by decide +kernel
theorem dX3_saysTheSameAs_38 : decode cX3_saysTheSameAs 38 = .ok (.invokestatic 64, 3) := by decide +kernel
theorem dX3_saysTheSameAs_41 : decode cX3_saysTheSameAs 41 = .ok (.if_icmp .eq 5, 3) := by decide +kernel
theorem dX3_saysTheSameAs_44 : decode cX3_saysTheSameAs 44 = .ok (.iconst 0, 1) := by decide +kernel
theorem dX3_saysTheSameAs_45 : decode cX3_saysTheSameAs 45 = .ok (.ireturn, 1) := by decide +kernel
theorem dX3_saysTheSameAs_46 : decode cX3_saysTheSameAs 46 = .ok (.iinc 2 1, 3) := by decide +kernel
theorem dX3_saysTheSameAs_49 : decode cX3_saysTheSameAs 49 = .ok (.goto (-34), 3) := by decide +kernel
theorem dX3_saysTheSameAs_52 : decode cX3_saysTheSameAs 52 = .ok (.iconst 1, 1) := by decide +kernel
theorem dX3_saysTheSameAs_53 : decode cX3_saysTheSameAs 53 = .ok (.ireturn, 1) := by decide +kernel
theorem dX4_init_0 : decode cX4_init 0 = .ok (.aload_n 0, 1) := by decide +kernel
theorem dX4_init_1 : decode cX4_init 1 = .ok (.invokespecial 1, 3) := by decide +kernel
theorem dX4_init_4 : decode cX4_init 4 = .ok (.aload_n 0, 1) := by decide +kernel
theorem dX4_init_5 : decode cX4_init 5 = .ok (.new 7, 3) := by decide +kernel
theorem dX4_init_8 : decode cX4_init 8 = .ok (.dup, 1) := by decide +kernel
theorem dX4_init_9 : decode cX4_init 9 = .ok (.invokespecial 9, 3) := by decide +kernel
theorem dX4_init_12 : decode cX4_init 12 = .ok (.putfield 10, 3) := by decide +kernel
theorem dX4_init_15 : decode cX4_init 15 = .ok (.aload_n 0, 1) := by decide +kernel
theorem dX4_init_16 : decode cX4_init 16 = .ok (.new 16, 3) := by decide +kernel
theorem dX4_init_19 : decode cX4_init 19 = .ok (.dup, 1) := by decide +kernel
theorem dX4_init_20 : decode cX4_init 20 = .ok (.invokespecial 18, 3) := by decide +kernel
theorem dX4_init_23 : decode cX4_init 23 = .ok (.putfield 19, 3) := by decide +kernel
theorem dX4_init_26 : decode cX4_init 26 = .ok (.aload_n 0, 1) := by decide +kernel
theorem dX4_init_27 : decode cX4_init 27 = .ok (.new 23, 3) := by decide +kernel
theorem dX4_init_30 : decode cX4_init 30 = .ok (.dup, 1) := by decide +kernel
theorem dX4_init_31 : decode cX4_init 31 = .ok (.invokespecial 25, 3) := by decide +kernel
theorem dX4_init_34 : decode cX4_init 34 = .ok (.putfield 26, 3) := by decide +kernel
theorem dX4_init_37 : decode cX4_init 37 = .ok (.aload_n 0, 1) := by decide +kernel
theorem dX4_init_38 : decode cX4_init 38 = .ok (.iconst 2, 1) := by decide +kernel
theorem dX4_init_39 : decode cX4_init 39 = .ok (.anewarray 7, 3) := by decide +kernel
theorem dX4_init_42 : decode cX4_init 42 = .ok (.putfield 30, 3) := by decide +kernel
theorem dX4_init_45 : decode cX4_init 45 = .ok (.aload_n 0, 1) := by decide +kernel
theorem dX4_init_46 : decode cX4_init 46 = .ok (.new 34, 3) := by decide +kernel
theorem dX4_init_49 : decode cX4_init 49 = .ok (.dup, 1) := by decide +kernel
theorem dX4_init_50 : decode cX4_init 50 = .ok (.invokespecial 36, 3) := by decide +kernel
theorem dX4_init_53 : decode cX4_init 53 = .ok (.putfield 37, 3) := by decide +kernel
theorem dX4_init_56 : decode cX4_init 56 = .ok (.aload_n 0, 1) := by decide +kernel
theorem dX4_init_57 : decode cX4_init 57 = .ok (.new 34, 3) := by decide +kernel
theorem dX4_init_60 : decode cX4_init 60 = .ok (.dup, 1) := by decide +kernel
theorem dX4_init_61 : decode cX4_init 61 = .ok (.invokespecial 36, 3) := by decide +kernel
theorem dX4_init_64 : decode cX4_init 64 = .ok (.putfield 41, 3) := by decide +kernel
theorem dX4_init_67 : decode cX4_init 67 = .ok (.aload_n 0, 1) := by decide +kernel
theorem dX4_init_68 : decode cX4_init 68 = .ok (.new 7, 3) := by decide +kernel
theorem dX4_init_71 : decode cX4_init 71 = .ok (.dup, 1) := by decide +kernel
theorem dX4_init_72 : decode cX4_init 72 = .ok (.invokespecial 9, 3) := by decide +kernel
theorem dX4_init_75 : decode cX4_init 75 = .ok (.putfield 44, 3) := by decide +kernel
theorem dX4_init_78 : decode cX4_init 78 = .ok (.return_, 1) := by decide +kernel
theorem dX4_set_0 : decode cX4_set 0 = .ok (.iload_n 1, 1) := by decide +kernel
theorem dX4_set_1 : decode cX4_set 1 = .ok (.ifCond .lt 8, 3) := by decide +kernel
theorem dX4_set_4 : decode cX4_set 4 = .ok (.iload_n 1, 1) := by decide +kernel
theorem dX4_set_5 : decode cX4_set 5 = .ok (.iconst 3, 1) := by decide +kernel
theorem dX4_set_6 : decode cX4_set 6 = .ok (.if_icmp .lt 6, 3) := by decide +kernel
theorem dX4_set_9 : decode cX4_set 9 = .ok (.ldc 47, 2) := by decide +kernel
theorem dX4_set_11 : decode cX4_set 11 = .ok (.ireturn, 1) := by decide +kernel
theorem dX4_set_12 : decode cX4_set 12 = .ok (.iload_n 1, 1) := by decide +kernel
theorem dX4_set_13 : decode cX4_set 13 = .ok (.ifCond .ne 7, 3) := by decide +kernel
theorem dX4_set_16 : decode cX4_set 16 = .ok (.iconst 2, 1) := by decide +kernel
theorem dX4_set_17 : decode cX4_set 17 = .ok (.goto 4, 3) := by decide +kernel
theorem dX4_set_20 : decode cX4_set 20 = .ok (.iconst 1, 1) := by decide +kernel
theorem dX4_set_21 : decode cX4_set 21 = .ok (.istore_n 3, 1) := by decide +kernel
theorem dX4_set_22 : decode cX4_set 22 = .ok (.iload_n 2, 1) := by decide +kernel
theorem dX4_set_23 : decode cX4_set 23 = .ok (.iload_n 3, 1) := by decide +kernel
theorem dX4_set_24 : decode cX4_set 24 = .ok (.if_icmp .lt 9, 3) := by decide +kernel
theorem dX4_set_27 : decode cX4_set 27 = .ok (.iload_n 2, 1) := by decide +kernel
theorem dX4_set_28 : decode cX4_set 28 = .ok (.bipush 9, 2) := by decide +kernel
theorem dX4_set_30 : decode cX4_set 30 = .ok (.if_icmp .le 6, 3) := by decide +kernel
theorem dX4_set_33 : decode cX4_set 33 = .ok (.ldc 47, 2) := by decide +kernel
theorem dX4_set_35 : decode cX4_set 35 = .ok (.ireturn, 1) := by decide +kernel
theorem dX4_set_36 : decode cX4_set 36 = .ok (.aload_n 0, 1) := by decide +kernel
theorem dX4_set_37 : decode cX4_set 37 = .ok (.getfield 26, 3) := by decide +kernel
theorem dX4_set_40 : decode cX4_set 40 = .ok (.aload_n 0, 1) := by decide +kernel
theorem dX4_set_41 : decode cX4_set 41 = .ok (.getfield 10, 3) := by decide +kernel
theorem dX4_set_44 : decode cX4_set 44 = .ok (.invokevirtual 48, 3) := by decide +kernel
theorem dX4_set_47 : decode cX4_set 47 = .ok (.aload_n 0, 1) := by decide +kernel
theorem dX4_set_48 : decode cX4_set 48 = .ok (.getfield 10, 3) := by decide +kernel
theorem dX4_set_51 : decode cX4_set 51 = .ok (.getfield 52, 3) := by decide +kernel
theorem dX4_set_54 : decode cX4_set 54 = .ok (.iload_n 1, 1) := by decide +kernel
theorem dX4_set_55 : decode cX4_set 55 = .ok (.iaload, 1) := by decide +kernel
theorem dX4_set_56 : decode cX4_set 56 = .ok (.istore 4, 2) := by decide +kernel
theorem dX4_set_58 : decode cX4_set 58 = .ok (.aload_n 0, 1) := by decide +kernel
theorem dX4_set_59 : decode cX4_set 59 = .ok (.getfield 10, 3) := by decide +kernel
theorem dX4_set_62 : decode cX4_set 62 = .ok (.getfield 52, 3) := by decide +kernel
theorem dX4_set_65 : decode cX4_set 65 = .ok (.iload_n 1, 1) := by decide +kernel
theorem dX4_set_66 : decode cX4_set 66 = .ok (.iload_n 2, 1) := by decide +kernel
theorem dX4_set_67 : decode cX4_set 67 = .ok (.iastore, 1) := by decide +kernel
theorem dX4_set_68 : decode cX4_set 68 = .ok (.iload 4, 2) := by decide +kernel
theorem dX4_set_70 : decode cX4_set 70 = .ok (.ireturn, 1) := by decide +kernel
theorem dX4_eyes_0 : decode cX4_eyes 0 = .ok (.iload_n 1, 1) := by decide +kernel
theorem dX4_eyes_1 : decode cX4_eyes 1 = .ok (.invokestatic 56, 3) := by decide +kernel
theorem dX4_eyes_4 : decode cX4_eyes 4 = .ok (.ifCond .ne 6, 3) := by decide +kernel
theorem dX4_eyes_7 : decode cX4_eyes 7 = .ok (.ldc 60, 2) := by decide +kernel
theorem dX4_eyes_9 : decode cX4_eyes 9 = .ok (.ireturn, 1) := by decide +kernel
theorem dX4_eyes_10 : decode cX4_eyes 10 = .ok (.iload_n 2, 1) := by decide +kernel
theorem dX4_eyes_11 : decode cX4_eyes 11 = .ok (.invokestatic 61, 3) := by decide +kernel
theorem dX4_eyes_14 : decode cX4_eyes 14 = .ok (.ifCond .ne 6, 3) := by decide +kernel
theorem dX4_eyes_17 : decode cX4_eyes 17 = .ok (.ldc 47, 2) := by decide +kernel
theorem dX4_eyes_19 : decode cX4_eyes 19 = .ok (.ireturn, 1) := by decide +kernel
theorem dX4_eyes_20 : decode cX4_eyes 20 = .ok (.aload_n 0, 1) := by decide +kernel
theorem dX4_eyes_21 : decode cX4_eyes 21 = .ok (.getfield 26, 3) := by decide +kernel
theorem dX4_eyes_24 : decode cX4_eyes 24 = .ok (.aload_n 0, 1) := by decide +kernel
theorem dX4_eyes_25 : decode cX4_eyes 25 = .ok (.getfield 10, 3) := by decide +kernel
theorem dX4_eyes_28 : decode cX4_eyes 28 = .ok (.invokevirtual 48, 3) := by decide +kernel
theorem dX4_eyes_31 : decode cX4_eyes 31 = .ok (.aload_n 0, 1) := by decide +kernel
theorem dX4_eyes_32 : decode cX4_eyes 32 = .ok (.getfield 10, 3) := by decide +kernel
theorem dX4_eyes_35 : decode cX4_eyes 35 = .ok (.getfield 64, 3) := by decide +kernel
theorem dX4_eyes_38 : decode cX4_eyes 38 = .ok (.iload_n 1, 1) := by decide +kernel
theorem dX4_eyes_39 : decode cX4_eyes 39 = .ok (.iaload, 1) := by decide +kernel
theorem dX4_eyes_40 : decode cX4_eyes 40 = .ok (.istore_n 3, 1) := by decide +kernel
theorem dX4_eyes_41 : decode cX4_eyes 41 = .ok (.aload_n 0, 1) := by decide +kernel
theorem dX4_eyes_42 : decode cX4_eyes 42 = .ok (.getfield 10, 3) := by decide +kernel
theorem dX4_eyes_45 : decode cX4_eyes 45 = .ok (.getfield 64, 3) := by decide +kernel
theorem dX4_eyes_48 : decode cX4_eyes 48 = .ok (.iload_n 1, 1) := by decide +kernel
theorem dX4_eyes_49 : decode cX4_eyes 49 = .ok (.iload_n 2, 1) := by decide +kernel
theorem dX4_eyes_50 : decode cX4_eyes 50 = .ok (.iastore, 1) := by decide +kernel
theorem dX4_eyes_51 : decode cX4_eyes 51 = .ok (.iload_n 3, 1) := by decide +kernel
theorem dX4_eyes_52 : decode cX4_eyes 52 = .ok (.ireturn, 1) := by decide +kernel
theorem dX4_bow_0 : decode cX4_bow 0 = .ok (.iload_n 1, 1) := by decide +kernel
theorem dX4_bow_1 : decode cX4_bow 1 = .ok (.iconst 1, 1) := by decide +kernel
theorem dX4_bow_2 : decode cX4_bow 2 = .ok (.if_icmp .lt 27, 3) := by decide +kernel
theorem dX4_bow_5 : decode cX4_bow 5 = .ok (.iload_n 1, 1) := by decide +kernel
theorem dX4_bow_6 : decode cX4_bow 6 = .ok (.iconst 3, 1) := by decide +kernel
theorem dX4_bow_7 : decode cX4_bow 7 = .ok (.if_icmp .gt 22, 3) := by decide +kernel
theorem dX4_bow_10 : decode cX4_bow 10 = .ok (.iload_n 2, 1) := by decide +kernel
theorem dX4_bow_11 : decode cX4_bow 11 = .ok (.ifCond .lt 18, 3) := by decide +kernel
theorem dX4_bow_14 : decode cX4_bow 14 = .ok (.iload_n 2, 1) := by decide +kernel
theorem dX4_bow_15 : decode cX4_bow 15 = .ok (.iconst 2, 1) := by decide +kernel
theorem dX4_bow_16 : decode cX4_bow 16 = .ok (.if_icmp .ge 13, 3) := by decide +kernel
theorem dX4_bow_19 : decode cX4_bow 19 = .ok (.iload_n 3, 1) := by decide +kernel
theorem dX4_bow_20 : decode cX4_bow 20 = .ok (.ifCond .lt 9, 3) := by decide +kernel
theorem dX4_bow_23 : decode cX4_bow 23 = .ok (.iload_n 3, 1) := by decide +kernel
theorem dX4_bow_24 : decode cX4_bow 24 = .ok (.bipush 9, 2) := by decide +kernel
theorem dX4_bow_26 : decode cX4_bow 26 = .ok (.if_icmp .le 6, 3) := by decide +kernel
theorem dX4_bow_29 : decode cX4_bow 29 = .ok (.ldc 47, 2) := by decide +kernel
theorem dX4_bow_31 : decode cX4_bow 31 = .ok (.ireturn, 1) := by decide +kernel
theorem dX4_bow_32 : decode cX4_bow 32 = .ok (.aload_n 0, 1) := by decide +kernel
theorem dX4_bow_33 : decode cX4_bow 33 = .ok (.getfield 10, 3) := by decide +kernel
theorem dX4_bow_36 : decode cX4_bow 36 = .ok (.getfield 67, 3) := by decide +kernel
theorem dX4_bow_39 : decode cX4_bow 39 = .ok (.bipush 24, 2) := by decide +kernel
theorem dX4_bow_41 : decode cX4_bow 41 = .ok (.if_icmp .lt 6, 3) := by decide +kernel
theorem dX4_bow_44 : decode cX4_bow 44 = .ok (.ldc 71, 2) := by decide +kernel
theorem dX4_bow_46 : decode cX4_bow 46 = .ok (.ireturn, 1) := by decide +kernel
theorem dX4_bow_47 : decode cX4_bow 47 = .ok (.aload_n 0, 1) := by decide +kernel
theorem dX4_bow_48 : decode cX4_bow 48 = .ok (.getfield 26, 3) := by decide +kernel
theorem dX4_bow_51 : decode cX4_bow 51 = .ok (.aload_n 0, 1) := by decide +kernel
theorem dX4_bow_52 : decode cX4_bow 52 = .ok (.getfield 10, 3) := by decide +kernel
theorem dX4_bow_55 : decode cX4_bow 55 = .ok (.invokevirtual 48, 3) := by decide +kernel
theorem dX4_bow_58 : decode cX4_bow 58 = .ok (.aload_n 0, 1) := by decide +kernel
theorem dX4_bow_59 : decode cX4_bow 59 = .ok (.getfield 10, 3) := by decide +kernel
theorem dX4_bow_62 : decode cX4_bow 62 = .ok (.iload_n 1, 1) := by decide +kernel
theorem dX4_bow_63 : decode cX4_bow 63 = .ok (.iload_n 2, 1) := by decide +kernel
theorem dX4_bow_64 : decode cX4_bow 64 = .ok (.invokestatic 72, 3) := by decide +kernel
theorem dX4_bow_67 : decode cX4_bow 67 = .ok (.iload_n 3, 1) := by decide +kernel
theorem dX4_bow_68 : decode cX4_bow 68 = .ok (.invokevirtual 76, 3) := by decide +kernel
theorem dX4_bow_71 : decode cX4_bow 71 = .ok (.aload_n 0, 1) := by decide +kernel
theorem dX4_bow_72 : decode cX4_bow 72 = .ok (.getfield 10, 3) := by decide +kernel
theorem dX4_bow_75 : decode cX4_bow 75 = .ok (.getfield 67, 3) := by decide +kernel
theorem dX4_bow_78 : decode cX4_bow 78 = .ok (.ireturn, 1) := by decide +kernel
theorem dX4_takeBack_0 : decode cX4_takeBack 0 = .ok (.aload_n 0, 1) := by decide +kernel
theorem dX4_takeBack_1 : decode cX4_takeBack 1 = .ok (.getfield 10, 3) := by decide +kernel
theorem dX4_takeBack_4 : decode cX4_takeBack 4 = .ok (.getfield 67, 3) := by decide +kernel
theorem dX4_takeBack_7 : decode cX4_takeBack 7 = .ok (.ifCond .gt 6, 3) := by decide +kernel
theorem dX4_takeBack_10 : decode cX4_takeBack 10 = .ok (.ldc 80, 2) := by decide +kernel
theorem dX4_takeBack_12 : decode cX4_takeBack 12 = .ok (.ireturn, 1) := by decide +kernel
theorem dX4_takeBack_13 : decode cX4_takeBack 13 = .ok (.aload_n 0, 1) := by decide +kernel
theorem dX4_takeBack_14 : decode cX4_takeBack 14 = .ok (.getfield 26, 3) := by decide +kernel
theorem dX4_takeBack_17 : decode cX4_takeBack 17 = .ok (.aload_n 0, 1) := by decide +kernel
theorem dX4_takeBack_18 : decode cX4_takeBack 18 = .ok (.getfield 10, 3) := by decide +kernel
theorem dX4_takeBack_21 : decode cX4_takeBack 21 = .ok (.invokevirtual 48, 3) := by decide +kernel
theorem dX4_takeBack_24 : decode cX4_takeBack 24 = .ok (.aload_n 0, 1) := by decide +kernel
theorem dX4_takeBack_25 : decode cX4_takeBack 25 = .ok (.getfield 10, 3) := by decide +kernel
theorem dX4_takeBack_28 : decode cX4_takeBack 28 = .ok (.dup, 1) := by decide +kernel
theorem dX4_takeBack_29 : decode cX4_takeBack 29 = .ok (.getfield 67, 3) := by decide +kernel
theorem dX4_takeBack_32 : decode cX4_takeBack 32 = .ok (.iconst 1, 1) := by decide +kernel
theorem dX4_takeBack_33 : decode cX4_takeBack 33 = .ok (.isub, 1) := by decide +kernel
theorem dX4_takeBack_34 : decode cX4_takeBack 34 = .ok (.putfield 67, 3) := by decide +kernel
theorem dX4_takeBack_37 : decode cX4_takeBack 37 = .ok (.aload_n 0, 1) := by decide +kernel
theorem dX4_takeBack_38 : decode cX4_takeBack 38 = .ok (.getfield 10, 3) := by decide +kernel
theorem dX4_takeBack_41 : decode cX4_takeBack 41 = .ok (.aload_n 0, 1) := by decide +kernel
theorem dX4_takeBack_42 : decode cX4_takeBack 42 = .ok (.getfield 10, 3) := by decide +kernel
theorem dX4_takeBack_45 : decode cX4_takeBack 45 = .ok (.getfield 67, 3) := by decide +kernel
theorem dX4_takeBack_48 : decode cX4_takeBack 48 = .ok (.invokevirtual 81, 3) := by decide +kernel
theorem dX4_takeBack_51 : decode cX4_takeBack 51 = .ok (.ireturn, 1) := by decide +kernel
theorem dX4_read_0 : decode cX4_read 0 = .ok (.aload_n 0, 1) := by decide +kernel
theorem dX4_read_1 : decode cX4_read 1 = .ok (.getfield 19, 3) := by decide +kernel
theorem dX4_read_4 : decode cX4_read 4 = .ok (.invokevirtual 85, 3) := by decide +kernel
theorem dX4_read_7 : decode cX4_read 7 = .ok (.ldc 89, 2) := by decide +kernel
theorem dX4_read_9 : decode cX4_read 9 = .ok (.if_icmp .eq 6, 3) := by decide +kernel
theorem dX4_read_12 : decode cX4_read 12 = .ok (.ldc 90, 2) := by decide +kernel
theorem dX4_read_14 : decode cX4_read 14 = .ok (.ireturn, 1) := by decide +kernel
theorem dX4_read_15 : decode cX4_read 15 = .ok (.aload_n 0, 1) := by decide +kernel
theorem dX4_read_16 : decode cX4_read 16 = .ok (.getfield 10, 3) := by decide +kernel
theorem dX4_read_19 : decode cX4_read 19 = .ok (.getfield 67, 3) := by decide +kernel
theorem dX4_read_22 : decode cX4_read 22 = .ok (.aload_n 0, 1) := by decide +kernel
theorem dX4_read_23 : decode cX4_read 23 = .ok (.getfield 19, 3) := by decide +kernel
theorem dX4_read_26 : decode cX4_read 26 = .ok (.invokevirtual 91, 3) := by decide +kernel
theorem dX4_read_29 : decode cX4_read 29 = .ok (.iadd, 1) := by decide +kernel
theorem dX4_read_30 : decode cX4_read 30 = .ok (.bipush 24, 2) := by decide +kernel
theorem dX4_read_32 : decode cX4_read 32 = .ok (.if_icmp .le 6, 3) := by decide +kernel
theorem dX4_read_35 : decode cX4_read 35 = .ok (.ldc 71, 2) := by decide +kernel
theorem dX4_read_37 : decode cX4_read 37 = .ok (.ireturn, 1) := by decide +kernel
theorem dX4_read_38 : decode cX4_read 38 = .ok (.aload_n 0, 1) := by decide +kernel
theorem dX4_read_39 : decode cX4_read 39 = .ok (.getfield 26, 3) := by decide +kernel
theorem dX4_read_42 : decode cX4_read 42 = .ok (.aload_n 0, 1) := by decide +kernel
theorem dX4_read_43 : decode cX4_read 43 = .ok (.getfield 10, 3) := by decide +kernel
theorem dX4_read_46 : decode cX4_read 46 = .ok (.invokevirtual 48, 3) := by decide +kernel
theorem dX4_read_49 : decode cX4_read 49 = .ok (.aload_n 0, 1) := by decide +kernel
theorem dX4_read_50 : decode cX4_read 50 = .ok (.getfield 19, 3) := by decide +kernel
theorem dX4_read_53 : decode cX4_read 53 = .ok (.aload_n 0, 1) := by decide +kernel
theorem dX4_read_54 : decode cX4_read 54 = .ok (.getfield 10, 3) := by decide +kernel
theorem dX4_read_57 : decode cX4_read 57 = .ok (.invokevirtual 94, 3) := by decide +kernel
theorem dX4_read_60 : decode cX4_read 60 = .ok (.aload_n 0, 1) := by decide +kernel
theorem dX4_read_61 : decode cX4_read 61 = .ok (.getfield 19, 3) := by decide +kernel
theorem dX4_read_64 : decode cX4_read 64 = .ok (.iconst 0, 1) := by decide +kernel
theorem dX4_read_65 : decode cX4_read 65 = .ok (.putfield 97, 3) := by decide +kernel
theorem dX4_read_68 : decode cX4_read 68 = .ok (.aload_n 0, 1) := by decide +kernel
theorem dX4_read_69 : decode cX4_read 69 = .ok (.getfield 10, 3) := by decide +kernel
theorem dX4_read_72 : decode cX4_read 72 = .ok (.getfield 67, 3) := by decide +kernel
theorem dX4_read_75 : decode cX4_read 75 = .ok (.ireturn, 1) := by decide +kernel
theorem dX4_hush_0 : decode cX4_hush 0 = .ok (.aload_n 0, 1) := by decide +kernel
theorem dX4_hush_1 : decode cX4_hush 1 = .ok (.getfield 26, 3) := by decide +kernel
theorem dX4_hush_4 : decode cX4_hush 4 = .ok (.aload_n 0, 1) := by decide +kernel
theorem dX4_hush_5 : decode cX4_hush 5 = .ok (.getfield 10, 3) := by decide +kernel
theorem dX4_hush_8 : decode cX4_hush 8 = .ok (.invokevirtual 48, 3) := by decide +kernel
theorem dX4_hush_11 : decode cX4_hush 11 = .ok (.aload_n 0, 1) := by decide +kernel
theorem dX4_hush_12 : decode cX4_hush 12 = .ok (.getfield 10, 3) := by decide +kernel
theorem dX4_hush_15 : decode cX4_hush 15 = .ok (.getfield 67, 3) := by decide +kernel
theorem dX4_hush_18 : decode cX4_hush 18 = .ok (.istore_n 1, 1) := by decide +kernel
theorem dX4_hush_19 : decode cX4_hush 19 = .ok (.aload_n 0, 1) := by decide +kernel
theorem dX4_hush_20 : decode cX4_hush 20 = .ok (.getfield 10, 3) := by decide +kernel
theorem dX4_hush_23 : decode cX4_hush 23 = .ok (.iconst 0, 1) := by decide +kernel
theorem dX4_hush_24 : decode cX4_hush 24 = .ok (.putfield 67, 3) := by decide +kernel
theorem dX4_hush_27 : decode cX4_hush 27 = .ok (.iload_n 1, 1) := by decide +kernel
theorem dX4_hush_28 : decode cX4_hush 28 = .ok (.ireturn, 1) := by decide +kernel
theorem dX4_give_0 : decode cX4_give 0 = .ok (.aload_n 0, 1) := by decide +kernel
theorem dX4_give_1 : decode cX4_give 1 = .ok (.invokevirtual 100, 3) := by decide +kernel
theorem dX4_give_4 : decode cX4_give 4 = .ok (.ifCond .ne 6, 3) := by decide +kernel
theorem dX4_give_7 : decode cX4_give 7 = .ok (.ldc 80, 2) := by decide +kernel
theorem dX4_give_9 : decode cX4_give 9 = .ok (.ireturn, 1) := by decide +kernel
theorem dX4_give_10 : decode cX4_give 10 = .ok (.aload_n 0, 1) := by decide +kernel
theorem dX4_give_11 : decode cX4_give 11 = .ok (.getfield 26, 3) := by decide +kernel
theorem dX4_give_14 : decode cX4_give 14 = .ok (.aload_n 0, 1) := by decide +kernel
theorem dX4_give_15 : decode cX4_give 15 = .ok (.getfield 10, 3) := by decide +kernel
theorem dX4_give_18 : decode cX4_give 18 = .ok (.invokevirtual 48, 3) := by decide +kernel
theorem dX4_give_21 : decode cX4_give 21 = .ok (.iconst 0, 1) := by decide +kernel
theorem dX4_give_22 : decode cX4_give 22 = .ok (.istore_n 1, 1) := by decide +kernel
theorem dX4_give_23 : decode cX4_give 23 = .ok (.iconst 0, 1) := by decide +kernel
theorem dX4_give_24 : decode cX4_give 24 = .ok (.istore_n 2, 1) := by decide +kernel
theorem dX4_give_25 : decode cX4_give 25 = .ok (.iload_n 2, 1) := by decide +kernel
theorem dX4_give_26 : decode cX4_give 26 = .ok (.bipush 6, 2) := by decide +kernel
theorem dX4_give_28 : decode cX4_give 28 = .ok (.if_icmp .ge 55, 3) := by decide +kernel
theorem dX4_give_31 : decode cX4_give 31 = .ok (.aload_n 0, 1) := by decide +kernel
theorem dX4_give_32 : decode cX4_give 32 = .ok (.iload_n 2, 1) := by decide +kernel
theorem dX4_give_33 : decode cX4_give 33 = .ok (.invokevirtual 104, 3) := by decide +kernel
theorem dX4_give_36 : decode cX4_give 36 = .ok (.iload_n 1, 1) := by decide +kernel
theorem dX4_give_37 : decode cX4_give 37 = .ok (.aload_n 0, 1) := by decide +kernel
theorem dX4_give_38 : decode cX4_give 38 = .ok (.iload_n 2, 1) := by decide +kernel
theorem dX4_give_39 : decode cX4_give 39 = .ok (.invokevirtual 108, 3) := by decide +kernel
theorem dX4_give_42 : decode cX4_give 42 = .ok (.iadd, 1) := by decide +kernel
theorem dX4_give_43 : decode cX4_give 43 = .ok (.istore_n 1, 1) := by decide +kernel
theorem dX4_give_44 : decode cX4_give 44 = .ok (.iconst 0, 1) := by decide +kernel
theorem dX4_give_45 : decode cX4_give 45 = .ok (.istore_n 3, 1) := by decide +kernel
theorem dX4_give_46 : decode cX4_give 46 = .ok (.iload_n 3, 1) := by decide +kernel
theorem dX4_give_47 : decode cX4_give 47 = .ok (.bipush 6, 2) := by decide +kernel
theorem dX4_give_49 : decode cX4_give 49 = .ok (.if_icmp .ge 28, 3) := by decide +kernel
theorem dX4_give_52 : decode cX4_give 52 = .ok (.aload_n 0, 1) := by decide +kernel
theorem dX4_give_53 : decode cX4_give 53 = .ok (.getfield 10, 3) := by decide +kernel
theorem dX4_give_56 : decode cX4_give 56 = .ok (.getfield 111, 3) := by decide +kernel
theorem dX4_give_59 : decode cX4_give 59 = .ok (.iload_n 2, 1) := by decide +kernel
theorem dX4_give_60 : decode cX4_give 60 = .ok (.iload_n 3, 1) := by decide +kernel
theorem dX4_give_61 : decode cX4_give 61 = .ok (.invokestatic 114, 3) := by decide +kernel
theorem dX4_give_64 : decode cX4_give 64 = .ok (.aload_n 0, 1) := by decide +kernel
theorem dX4_give_65 : decode cX4_give 65 = .ok (.iload_n 2, 1) := by decide +kernel
theorem dX4_give_66 : decode cX4_give 66 = .ok (.iload_n 3, 1) := by decide +kernel
theorem dX4_give_67 : decode cX4_give 67 = .ok (.invokevirtual 117, 3) := by decide +kernel
theorem dX4_give_70 : decode cX4_give 70 = .ok (.iastore, 1) := by decide +kernel
theorem dX4_give_71 : decode cX4_give 71 = .ok (.iinc 3 1, 3) := by decide +kernel
theorem dX4_give_74 : decode cX4_give 74 = .ok (.goto (-28), 3) := by decide +kernel
theorem dX4_give_77 : decode cX4_give 77 = .ok (.iinc 2 1, 3) := by decide +kernel
theorem dX4_give_80 : decode cX4_give 80 = .ok (.goto (-55), 3) := by decide +kernel
theorem dX4_give_83 : decode cX4_give 83 = .ok (.aload_n 0, 1) := by decide +kernel
theorem dX4_give_84 : decode cX4_give 84 = .ok (.getfield 10, 3) := by decide +kernel
theorem dX4_give_87 : decode cX4_give 87 = .ok (.iconst 0, 1) := by decide +kernel
theorem dX4_give_88 : decode cX4_give 88 = .ok (.putfield 67, 3) := by decide +kernel
theorem dX4_give_91 : decode cX4_give 91 = .ok (.aload_n 0, 1) := by decide +kernel
theorem dX4_give_92 : decode cX4_give 92 = .ok (.getfield 10, 3) := by decide +kernel
theorem dX4_give_95 : decode cX4_give 95 = .ok (.dup, 1) := by decide +kernel
theorem dX4_give_96 : decode cX4_give 96 = .ok (.getfield 120, 3) := by decide +kernel
theorem dX4_give_99 : decode cX4_give 99 = .ok (.iconst 1, 1) := by decide +kernel
theorem dX4_give_100 : decode cX4_give 100 = .ok (.iadd, 1) := by decide +kernel
theorem dX4_give_101 : decode cX4_give 101 = .ok (.putfield 120, 3) := by decide +kernel
theorem dX4_give_104 : decode cX4_give 104 = .ok (.aload_n 0, 1) := by decide +kernel
theorem dX4_give_105 : decode cX4_give 105 = .ok (.getfield 10, 3) := by decide +kernel
theorem dX4_give_108 : decode cX4_give 108 = .ok (.dup, 1) := by decide +kernel
theorem dX4_give_109 : decode cX4_give 109 = .ok (.getfield 123, 3) := by decide +kernel
theorem dX4_give_112 : decode cX4_give 112 = .ok (.iload_n 1, 1) := by decide +kernel
theorem dX4_give_113 : decode cX4_give 113 = .ok (.iadd, 1) := by decide +kernel
theorem dX4_give_114 : decode cX4_give 114 = .ok (.putfield 123, 3) := by decide +kernel
theorem dX4_give_117 : decode cX4_give 117 = .ok (.iload_n 1, 1) := by decide +kernel
theorem dX4_give_118 : decode cX4_give 118 = .ok (.ireturn, 1) := by decide +kernel
theorem dX4_speech_0 : decode cX4_speech 0 = .ok (.iload_n 1, 1) := by decide +kernel
theorem dX4_speech_1 : decode cX4_speech 1 = .ok (.invokestatic 61, 3) := by decide +kernel
theorem dX4_speech_4 : decode cX4_speech 4 = .ok (.ifCond .ne 6, 3) := by decide +kernel
theorem dX4_speech_7 : decode cX4_speech 7 = .ok (.ldc 47, 2) := by decide +kernel
theorem dX4_speech_9 : decode cX4_speech 9 = .ok (.ireturn, 1) := by decide +kernel
theorem dX4_speech_10 : decode cX4_speech 10 = .ok (.aload_n 0, 1) := by decide +kernel
theorem dX4_speech_11 : decode cX4_speech 11 = .ok (.getfield 37, 3) := by decide +kernel
theorem dX4_speech_14 : decode cX4_speech 14 = .ok (.aload_n 0, 1) := by decide +kernel
theorem dX4_speech_15 : decode cX4_speech 15 = .ok (.getfield 10, 3) := by decide +kernel
theorem dX4_speech_18 : decode cX4_speech 18 = .ok (.iload_n 1, 1) := by decide +kernel
theorem dX4_speech_19 : decode cX4_speech 19 = .ok (.invokevirtual 126, 3) := by decide +kernel
theorem dX4_speech_22 : decode cX4_speech 22 = .ok (.iload_n 2, 1) := by decide +kernel
theorem dX4_speech_23 : decode cX4_speech 23 = .ok (.tableswitch 61 0 3 #[29, 37, 45, 53], 29) := by decide +kernel
theorem dX4_speech_52 : decode cX4_speech 52 = .ok (.aload_n 0, 1) := by decide +kernel
theorem dX4_speech_53 : decode cX4_speech 53 = .ok (.getfield 37, 3) := by decide +kernel
theorem dX4_speech_56 : decode cX4_speech 56 = .ok (.getfield 130, 3) := by decide +kernel
theorem dX4_speech_59 : decode cX4_speech 59 = .ok (.ireturn, 1) := by decide +kernel
theorem dX4_speech_60 : decode cX4_speech 60 = .ok (.aload_n 0, 1) := by decide +kernel
theorem dX4_speech_61 : decode cX4_speech 61 = .ok (.getfield 37, 3) := by decide +kernel
theorem dX4_speech_64 : decode cX4_speech 64 = .ok (.getfield 133, 3) := by decide +kernel
theorem dX4_speech_67 : decode cX4_speech 67 = .ok (.ireturn, 1) := by decide +kernel
theorem dX4_speech_68 : decode cX4_speech 68 = .ok (.aload_n 0, 1) := by decide +kernel
theorem dX4_speech_69 : decode cX4_speech 69 = .ok (.getfield 37, 3) := by decide +kernel
theorem dX4_speech_72 : decode cX4_speech 72 = .ok (.getfield 136, 3) := by decide +kernel
theorem dX4_speech_75 : decode cX4_speech 75 = .ok (.ireturn, 1) := by decide +kernel
theorem dX4_speech_76 : decode cX4_speech 76 = .ok (.aload_n 0, 1) := by decide +kernel
theorem dX4_speech_77 : decode cX4_speech 77 = .ok (.getfield 37, 3) := by decide +kernel
theorem dX4_speech_80 : decode cX4_speech 80 = .ok (.getfield 139, 3) := by decide +kernel
theorem dX4_speech_83 : decode cX4_speech 83 = .ok (.ireturn, 1) := by decide +kernel
theorem dX4_speech_84 : decode cX4_speech 84 = .ok (.ldc 47, 2) := by decide +kernel
theorem dX4_speech_86 : decode cX4_speech 86 = .ok (.ireturn, 1) := by decide +kernel
theorem dX4_word_0 : decode cX4_word 0 = .ok (.iload_n 1, 1) := by decide +kernel
theorem dX4_word_1 : decode cX4_word 1 = .ok (.invokestatic 61, 3) := by decide +kernel
theorem dX4_word_4 : decode cX4_word 4 = .ok (.ifCond .ne 6, 3) := by decide +kernel
theorem dX4_word_7 : decode cX4_word 7 = .ok (.ldc 47, 2) := by decide +kernel
theorem dX4_word_9 : decode cX4_word 9 = .ok (.ireturn, 1) := by decide +kernel
theorem dX4_word_10 : decode cX4_word 10 = .ok (.aload_n 0, 1) := by decide +kernel
theorem dX4_word_11 : decode cX4_word 11 = .ok (.getfield 37, 3) := by decide +kernel
theorem dX4_word_14 : decode cX4_word 14 = .ok (.aload_n 0, 1) := by decide +kernel
theorem dX4_word_15 : decode cX4_word 15 = .ok (.getfield 10, 3) := by decide +kernel
theorem dX4_word_18 : decode cX4_word 18 = .ok (.iload_n 1, 1) := by decide +kernel
theorem dX4_word_19 : decode cX4_word 19 = .ok (.invokevirtual 126, 3) := by decide +kernel
theorem dX4_word_22 : decode cX4_word 22 = .ok (.iload_n 2, 1) := by decide +kernel
theorem dX4_word_23 : decode cX4_word 23 = .ok (.ifCond .lt 14, 3) := by decide +kernel
theorem dX4_word_26 : decode cX4_word 26 = .ok (.iload_n 2, 1) := by decide +kernel
theorem dX4_word_27 : decode cX4_word 27 = .ok (.aload_n 0, 1) := by decide +kernel
theorem dX4_word_28 : decode cX4_word 28 = .ok (.getfield 37, 3) := by decide +kernel
theorem dX4_word_31 : decode cX4_word 31 = .ok (.getfield 130, 3) := by decide +kernel
theorem dX4_word_34 : decode cX4_word 34 = .ok (.if_icmp .lt 6, 3) := by decide +kernel
theorem dX4_word_37 : decode cX4_word 37 = .ok (.ldc 60, 2) := by decide +kernel
theorem dX4_word_39 : decode cX4_word 39 = .ok (.ireturn, 1) := by decide +kernel
theorem dX4_word_40 : decode cX4_word 40 = .ok (.aload_n 0, 1) := by decide +kernel
theorem dX4_word_41 : decode cX4_word 41 = .ok (.getfield 37, 3) := by decide +kernel
theorem dX4_word_44 : decode cX4_word 44 = .ok (.getfield 142, 3) := by decide +kernel
theorem dX4_word_47 : decode cX4_word 47 = .ok (.iload_n 2, 1) := by decide +kernel
theorem dX4_word_48 : decode cX4_word 48 = .ok (.invokestatic 145, 3) := by decide +kernel
theorem dX4_word_51 : decode cX4_word 51 = .ok (.ireturn, 1) := by decide +kernel
theorem dX4_sentence_0 : decode cX4_sentence 0 = .ok (.iload_n 1, 1) := by decide +kernel
theorem dX4_sentence_1 : decode cX4_sentence 1 = .ok (.invokestatic 61, 3) := by decide +kernel
theorem dX4_sentence_4 : decode cX4_sentence 4 = .ok (.ifCond .eq 12, 3) := by decide +kernel
theorem dX4_sentence_7 : decode cX4_sentence 7 = .ok (.iload_n 3, 1) := by decide +kernel
theorem dX4_sentence_8 : decode cX4_sentence 8 = .ok (.ifCond .lt 8, 3) := by decide +kernel
theorem dX4_sentence_11 : decode cX4_sentence 11 = .ok (.iload_n 3, 1) := by decide +kernel
theorem dX4_sentence_12 : decode cX4_sentence 12 = .ok (.iconst 3, 1) := by decide +kernel
theorem dX4_sentence_13 : decode cX4_sentence 13 = .ok (.if_icmp .le 6, 3) := by decide +kernel
theorem dX4_sentence_16 : decode cX4_sentence 16 = .ok (.ldc 47, 2) := by decide +kernel
theorem dX4_sentence_18 : decode cX4_sentence 18 = .ok (.ireturn, 1) := by decide +kernel
theorem dX4_sentence_19 : decode cX4_sentence 19 = .ok (.aload_n 0, 1) := by decide +kernel
theorem dX4_sentence_20 : decode cX4_sentence 20 = .ok (.getfield 37, 3) := by decide +kernel
theorem dX4_sentence_23 : decode cX4_sentence 23 = .ok (.aload_n 0, 1) := by decide +kernel
theorem dX4_sentence_24 : decode cX4_sentence 24 = .ok (.getfield 10, 3) := by decide +kernel
theorem dX4_sentence_27 : decode cX4_sentence 27 = .ok (.iload_n 1, 1) := by decide +kernel
theorem dX4_sentence_28 : decode cX4_sentence 28 = .ok (.invokevirtual 126, 3) := by decide +kernel
theorem dX4_sentence_31 : decode cX4_sentence 31 = .ok (.iload_n 2, 1) := by decide +kernel
theorem dX4_sentence_32 : decode cX4_sentence 32 = .ok (.ifCond .lt 14, 3) := by decide +kernel
theorem dX4_sentence_35 : decode cX4_sentence 35 = .ok (.iload_n 2, 1) := by decide +kernel
theorem dX4_sentence_36 : decode cX4_sentence 36 = .ok (.aload_n 0, 1) := by decide +kernel
theorem dX4_sentence_37 : decode cX4_sentence 37 = .ok (.getfield 37, 3) := by decide +kernel
theorem dX4_sentence_40 : decode cX4_sentence 40 = .ok (.getfield 136, 3) := by decide +kernel
theorem dX4_sentence_43 : decode cX4_sentence 43 = .ok (.if_icmp .lt 6, 3) := by decide +kernel
theorem dX4_sentence_46 : decode cX4_sentence 46 = .ok (.ldc 60, 2) := by decide +kernel
theorem dX4_sentence_48 : decode cX4_sentence 48 = .ok (.ireturn, 1) := by decide +kernel
theorem dX4_sentence_49 : decode cX4_sentence 49 = .ok (.iload_n 3, 1) := by decide +kernel
theorem dX4_sentence_50 : decode cX4_sentence 50 = .ok (.iconst 3, 1) := by decide +kernel
theorem dX4_sentence_51 : decode cX4_sentence 51 = .ok (.if_icmp .ne 20, 3) := by decide +kernel
theorem dX4_sentence_54 : decode cX4_sentence 54 = .ok (.aload_n 0, 1) := by decide +kernel
theorem dX4_sentence_55 : decode cX4_sentence 55 = .ok (.getfield 37, 3) := by decide +kernel
theorem dX4_sentence_58 : decode cX4_sentence 58 = .ok (.iload_n 2, 1) := by decide +kernel
theorem dX4_sentence_59 : decode cX4_sentence 59 = .ok (.invokevirtual 149, 3) := by decide +kernel
theorem dX4_sentence_62 : decode cX4_sentence 62 = .ok (.ifCond .eq 7, 3) := by decide +kernel
theorem dX4_sentence_65 : decode cX4_sentence 65 = .ok (.iconst 1, 1) := by decide +kernel
theorem dX4_sentence_66 : decode cX4_sentence 66 = .ok (.goto 4, 3) := by decide +kernel
theorem dX4_sentence_69 : decode cX4_sentence 69 = .ok (.iconst 0, 1) := by decide +kernel
theorem dX4_sentence_70 : decode cX4_sentence 70 = .ok (.ireturn, 1) := by decide +kernel
theorem dX4_sentence_71 : decode cX4_sentence 71 = .ok (.aload_n 0, 1) := by decide +kernel
theorem dX4_sentence_72 : decode cX4_sentence 72 = .ok (.getfield 37, 3) := by decide +kernel
theorem dX4_sentence_75 : decode cX4_sentence 75 = .ok (.iload_n 2, 1) := by decide +kernel
theorem dX4_sentence_76 : decode cX4_sentence 76 = .ok (.iload_n 3, 1) := by decide +kernel
theorem dX4_sentence_77 : decode cX4_sentence 77 = .ok (.invokevirtual 152, 3) := by decide +kernel
theorem dX4_sentence_80 : decode cX4_sentence 80 = .ok (.ireturn, 1) := by decide +kernel
theorem dX4_favour_0 : decode cX4_favour 0 = .ok (.iload_n 1, 1) := by decide +kernel
theorem dX4_favour_1 : decode cX4_favour 1 = .ok (.invokestatic 56, 3) := by decide +kernel
theorem dX4_favour_4 : decode cX4_favour 4 = .ok (.ifCond .eq 10, 3) := by decide +kernel
theorem dX4_favour_7 : decode cX4_favour 7 = .ok (.iload_n 2, 1) := by decide +kernel
theorem dX4_favour_8 : decode cX4_favour 8 = .ok (.invokestatic 56, 3) := by decide +kernel
theorem dX4_favour_11 : decode cX4_favour 11 = .ok (.ifCond .ne 6, 3) := by decide +kernel
theorem dX4_favour_14 : decode cX4_favour 14 = .ok (.ldc 60, 2) := by decide +kernel
theorem dX4_favour_16 : decode cX4_favour 16 = .ok (.ireturn, 1) := by decide +kernel
theorem dX4_favour_17 : decode cX4_favour 17 = .ok (.aload_n 0, 1) := by decide +kernel
theorem dX4_favour_18 : decode cX4_favour 18 = .ok (.getfield 10, 3) := by decide +kernel
theorem dX4_favour_21 : decode cX4_favour 21 = .ok (.getfield 111, 3) := by decide +kernel
theorem dX4_favour_24 : decode cX4_favour 24 = .ok (.iload_n 1, 1) := by decide +kernel
theorem dX4_favour_25 : decode cX4_favour 25 = .ok (.iload_n 2, 1) := by decide +kernel
theorem dX4_favour_26 : decode cX4_favour 26 = .ok (.invokestatic 114, 3) := by decide +kernel
theorem dX4_favour_29 : decode cX4_favour 29 = .ok (.iaload, 1) := by decide +kernel
theorem dX4_favour_30 : decode cX4_favour 30 = .ok (.ireturn, 1) := by decide +kernel
theorem dX4_count_0 : decode cX4_count 0 = .ok (.iload_n 1, 1) := by decide +kernel
theorem dX4_count_1 : decode cX4_count 1 = .ok (.tableswitch 115 0 9 #[55, 55, 55, 65, 73, 81, 89, 94, 99, 107], 55) := by decide +kernel
theorem dX4_count_56 : decode cX4_count 56 = .ok (.aload_n 0, 1) := by decide +kernel
theorem dX4_count_57 : decode cX4_count 57 = .ok (.getfield 10, 3) := by decide +kernel
theorem dX4_count_60 : decode cX4_count 60 = .ok (.getfield 52, 3) := by decide +kernel
theorem dX4_count_63 : decode cX4_count 63 = .ok (.iload_n 1, 1) := by decide +kernel
theorem dX4_count_64 : decode cX4_count 64 = .ok (.iaload, 1) := by decide +kernel
theorem dX4_count_65 : decode cX4_count 65 = .ok (.ireturn, 1) := by decide +kernel
theorem dX4_count_66 : decode cX4_count 66 = .ok (.aload_n 0, 1) := by decide +kernel
theorem dX4_count_67 : decode cX4_count 67 = .ok (.getfield 10, 3) := by decide +kernel
theorem dX4_count_70 : decode cX4_count 70 = .ok (.getfield 67, 3) := by decide +kernel
theorem dX4_count_73 : decode cX4_count 73 = .ok (.ireturn, 1) := by decide +kernel
theorem dX4_count_74 : decode cX4_count 74 = .ok (.aload_n 0, 1) := by decide +kernel
theorem dX4_count_75 : decode cX4_count 75 = .ok (.getfield 10, 3) := by decide +kernel
theorem dX4_count_78 : decode cX4_count 78 = .ok (.getfield 120, 3) := by decide +kernel
theorem dX4_count_81 : decode cX4_count 81 = .ok (.ireturn, 1) := by decide +kernel
theorem dX4_count_82 : decode cX4_count 82 = .ok (.aload_n 0, 1) := by decide +kernel
theorem dX4_count_83 : decode cX4_count 83 = .ok (.getfield 10, 3) := by decide +kernel
theorem dX4_count_86 : decode cX4_count 86 = .ok (.getfield 123, 3) := by decide +kernel
theorem dX4_count_89 : decode cX4_count 89 = .ok (.ireturn, 1) := by decide +kernel
theorem dX4_count_90 : decode cX4_count 90 = .ok (.aload_n 0, 1) := by decide +kernel
theorem dX4_count_91 : decode cX4_count 91 = .ok (.invokevirtual 155, 3) := by decide +kernel
theorem dX4_count_94 : decode cX4_count 94 = .ok (.ireturn, 1) := by decide +kernel
theorem dX4_count_95 : decode cX4_count 95 = .ok (.aload_n 0, 1) := by decide +kernel
theorem dX4_count_96 : decode cX4_count 96 = .ok (.invokevirtual 158, 3) := by decide +kernel
theorem dX4_count_99 : decode cX4_count 99 = .ok (.ireturn, 1) := by decide +kernel
theorem dX4_count_100 : decode cX4_count 100 = .ok (.aload_n 0, 1) := by decide +kernel
theorem dX4_count_101 : decode cX4_count 101 = .ok (.getfield 19, 3) := by decide +kernel
theorem dX4_count_104 : decode cX4_count 104 = .ok (.getfield 97, 3) := by decide +kernel
theorem dX4_count_107 : decode cX4_count 107 = .ok (.ireturn, 1) := by decide +kernel
theorem dX4_count_108 : decode cX4_count 108 = .ok (.aload_n 0, 1) := by decide +kernel
theorem dX4_count_109 : decode cX4_count 109 = .ok (.getfield 26, 3) := by decide +kernel
theorem dX4_count_112 : decode cX4_count 112 = .ok (.getfield 161, 3) := by decide +kernel
theorem dX4_count_115 : decode cX4_count 115 = .ok (.ireturn, 1) := by decide +kernel
theorem dX4_count_116 : decode cX4_count 116 = .ok (.ldc 47, 2) := by decide +kernel
theorem dX4_count_118 : decode cX4_count 118 = .ok (.ireturn, 1) := by decide +kernel
theorem dX4_courtier_0 : decode cX4_courtier 0 = .ok (.iload_n 1, 1) := by decide +kernel
theorem dX4_courtier_1 : decode cX4_courtier 1 = .ok (.invokestatic 56, 3) := by decide +kernel
theorem dX4_courtier_4 : decode cX4_courtier 4 = .ok (.ifCond .ne 6, 3) := by decide +kernel
theorem dX4_courtier_7 : decode cX4_courtier 7 = .ok (.ldc 60, 2) := by decide +kernel
theorem dX4_courtier_9 : decode cX4_courtier 9 = .ok (.ireturn, 1) := by decide +kernel
theorem dX4_courtier_10 : decode cX4_courtier 10 = .ok (.iload_n 2, 1) := by decide +kernel
theorem dX4_courtier_11 : decode cX4_courtier 11 = .ok (.tableswitch 57 0 3 #[29, 39, 45, 51], 29) := by decide +kernel
theorem dX4_courtier_40 : decode cX4_courtier 40 = .ok (.aload_n 0, 1) := by decide +kernel
theorem dX4_courtier_41 : decode cX4_courtier 41 = .ok (.getfield 10, 3) := by decide +kernel
theorem dX4_courtier_44 : decode cX4_courtier 44 = .ok (.getfield 64, 3) := by decide +kernel
theorem dX4_courtier_47 : decode cX4_courtier 47 = .ok (.iload_n 1, 1) := by decide +kernel
theorem dX4_courtier_48 : decode cX4_courtier 48 = .ok (.iaload, 1) := by decide +kernel
theorem dX4_courtier_49 : decode cX4_courtier 49 = .ok (.ireturn, 1) := by decide +kernel
theorem dX4_courtier_50 : decode cX4_courtier 50 = .ok (.aload_n 0, 1) := by decide +kernel
theorem dX4_courtier_51 : decode cX4_courtier 51 = .ok (.iload_n 1, 1) := by decide +kernel
theorem dX4_courtier_52 : decode cX4_courtier 52 = .ok (.invokevirtual 164, 3) := by decide +kernel
theorem dX4_courtier_55 : decode cX4_courtier 55 = .ok (.ireturn, 1) := by decide +kernel
theorem dX4_courtier_56 : decode cX4_courtier 56 = .ok (.aload_n 0, 1) := by decide +kernel
theorem dX4_courtier_57 : decode cX4_courtier 57 = .ok (.iload_n 1, 1) := by decide +kernel
theorem dX4_courtier_58 : decode cX4_courtier 58 = .ok (.invokevirtual 167, 3) := by decide +kernel
theorem dX4_courtier_61 : decode cX4_courtier 61 = .ok (.ireturn, 1) := by decide +kernel
theorem dX4_courtier_62 : decode cX4_courtier 62 = .ok (.aload_n 0, 1) := by decide +kernel
theorem dX4_courtier_63 : decode cX4_courtier 63 = .ok (.iload_n 1, 1) := by decide +kernel
theorem dX4_courtier_64 : decode cX4_courtier 64 = .ok (.invokevirtual 170, 3) := by decide +kernel
theorem dX4_courtier_67 : decode cX4_courtier 67 = .ok (.ireturn, 1) := by decide +kernel
theorem dX4_courtier_68 : decode cX4_courtier 68 = .ok (.ldc 47, 2) := by decide +kernel
theorem dX4_courtier_70 : decode cX4_courtier 70 = .ok (.ireturn, 1) := by decide +kernel
theorem dX4_ifGiven_0 : decode cX4_ifGiven 0 = .ok (.iload_n 1, 1) := by decide +kernel
theorem dX4_ifGiven_1 : decode cX4_ifGiven 1 = .ok (.invokestatic 56, 3) := by decide +kernel
theorem dX4_ifGiven_4 : decode cX4_ifGiven 4 = .ok (.ifCond .eq 10, 3) := by decide +kernel
theorem dX4_ifGiven_7 : decode cX4_ifGiven 7 = .ok (.iload_n 2, 1) := by decide +kernel
theorem dX4_ifGiven_8 : decode cX4_ifGiven 8 = .ok (.invokestatic 56, 3) := by decide +kernel
theorem dX4_ifGiven_11 : decode cX4_ifGiven 11 = .ok (.ifCond .ne 6, 3) := by decide +kernel
theorem dX4_ifGiven_14 : decode cX4_ifGiven 14 = .ok (.ldc 60, 2) := by decide +kernel
theorem dX4_ifGiven_16 : decode cX4_ifGiven 16 = .ok (.ireturn, 1) := by decide +kernel
theorem dX4_ifGiven_17 : decode cX4_ifGiven 17 = .ok (.aload_n 0, 1) := by decide +kernel
theorem dX4_ifGiven_18 : decode cX4_ifGiven 18 = .ok (.invokevirtual 100, 3) := by decide +kernel
theorem dX4_ifGiven_21 : decode cX4_ifGiven 21 = .ok (.ifCond .ne 6, 3) := by decide +kernel
theorem dX4_ifGiven_24 : decode cX4_ifGiven 24 = .ok (.ldc 80, 2) := by decide +kernel
theorem dX4_ifGiven_26 : decode cX4_ifGiven 26 = .ok (.ireturn, 1) := by decide +kernel
theorem dX4_ifGiven_27 : decode cX4_ifGiven 27 = .ok (.aload_n 0, 1) := by decide +kernel
theorem dX4_ifGiven_28 : decode cX4_ifGiven 28 = .ok (.iload_n 1, 1) := by decide +kernel
theorem dX4_ifGiven_29 : decode cX4_ifGiven 29 = .ok (.invokevirtual 104, 3) := by decide +kernel
theorem dX4_ifGiven_32 : decode cX4_ifGiven 32 = .ok (.aload_n 0, 1) := by decide +kernel
theorem dX4_ifGiven_33 : decode cX4_ifGiven 33 = .ok (.iload_n 1, 1) := by decide +kernel
theorem dX4_ifGiven_34 : decode cX4_ifGiven 34 = .ok (.iload_n 2, 1) := by decide +kernel
theorem dX4_ifGiven_35 : decode cX4_ifGiven 35 = .ok (.invokevirtual 117, 3) := by decide +kernel
theorem dX4_ifGiven_38 : decode cX4_ifGiven 38 = .ok (.ireturn, 1) := by decide +kernel
theorem dX4_bestBow_0 : decode cX4_bestBow 0 = .ok (.aload_n 0, 1) := by decide +kernel
theorem dX4_bestBow_1 : decode cX4_bestBow 1 = .ok (.getfield 10, 3) := by decide +kernel
theorem dX4_bestBow_4 : decode cX4_bestBow 4 = .ok (.getfield 67, 3) := by decide +kernel
theorem dX4_bestBow_7 : decode cX4_bestBow 7 = .ok (.bipush 24, 2) := by decide +kernel
theorem dX4_bestBow_9 : decode cX4_bestBow 9 = .ok (.if_icmp .lt 6, 3) := by decide +kernel
theorem dX4_bestBow_12 : decode cX4_bestBow 12 = .ok (.ldc 89, 2) := by decide +kernel
theorem dX4_bestBow_14 : decode cX4_bestBow 14 = .ok (.ireturn, 1) := by decide +kernel
theorem dX4_bestBow_15 : decode cX4_bestBow 15 = .ok (.aload_n 0, 1) := by decide +kernel
theorem dX4_bestBow_16 : decode cX4_bestBow 16 = .ok (.getfield 41, 3) := by decide +kernel
theorem dX4_bestBow_19 : decode cX4_bestBow 19 = .ok (.aload_n 0, 1) := by decide +kernel
theorem dX4_bestBow_20 : decode cX4_bestBow 20 = .ok (.getfield 10, 3) := by decide +kernel
theorem dX4_bestBow_23 : decode cX4_bestBow 23 = .ok (.iconst 0, 1) := by decide +kernel
theorem dX4_bestBow_24 : decode cX4_bestBow 24 = .ok (.invokevirtual 126, 3) := by decide +kernel
theorem dX4_bestBow_27 : decode cX4_bestBow 27 = .ok (.aload_n 0, 1) := by decide +kernel
theorem dX4_bestBow_28 : decode cX4_bestBow 28 = .ok (.getfield 41, 3) := by decide +kernel
theorem dX4_bestBow_31 : decode cX4_bestBow 31 = .ok (.getfield 136, 3) := by decide +kernel
theorem dX4_bestBow_34 : decode cX4_bestBow 34 = .ok (.istore_n 1, 1) := by decide +kernel
theorem dX4_bestBow_35 : decode cX4_bestBow 35 = .ok (.ldc 89, 2) := by decide +kernel
theorem dX4_bestBow_37 : decode cX4_bestBow 37 = .ok (.istore_n 2, 1) := by decide +kernel
theorem dX4_bestBow_38 : decode cX4_bestBow 38 = .ok (.aload_n 0, 1) := by decide +kernel
theorem dX4_bestBow_39 : decode cX4_bestBow 39 = .ok (.getfield 44, 3) := by decide +kernel
theorem dX4_bestBow_42 : decode cX4_bestBow 42 = .ok (.aload_n 0, 1) := by decide +kernel
theorem dX4_bestBow_43 : decode cX4_bestBow 43 = .ok (.getfield 10, 3) := by decide +kernel
theorem dX4_bestBow_46 : decode cX4_bestBow 46 = .ok (.invokevirtual 173, 3) := by decide +kernel
theorem dX4_bestBow_49 : decode cX4_bestBow 49 = .ok (.iconst 0, 1) := by decide +kernel
theorem dX4_bestBow_50 : decode cX4_bestBow 50 = .ok (.istore_n 3, 1) := by decide +kernel
theorem dX4_bestBow_51 : decode cX4_bestBow 51 = .ok (.iload_n 3, 1) := by decide +kernel
theorem dX4_bestBow_52 : decode cX4_bestBow 52 = .ok (.bipush 6, 2) := by decide +kernel
theorem dX4_bestBow_54 : decode cX4_bestBow 54 = .ok (.if_icmp .ge 65, 3) := by decide +kernel
theorem dX4_bestBow_57 : decode cX4_bestBow 57 = .ok (.aload_n 0, 1) := by decide +kernel
theorem dX4_bestBow_58 : decode cX4_bestBow 58 = .ok (.getfield 44, 3) := by decide +kernel
theorem dX4_bestBow_61 : decode cX4_bestBow 61 = .ok (.aload_n 0, 1) := by decide +kernel
theorem dX4_bestBow_62 : decode cX4_bestBow 62 = .ok (.getfield 10, 3) := by decide +kernel
theorem dX4_bestBow_65 : decode cX4_bestBow 65 = .ok (.getfield 67, 3) := by decide +kernel
theorem dX4_bestBow_68 : decode cX4_bestBow 68 = .ok (.putfield 67, 3) := by decide +kernel
theorem dX4_bestBow_71 : decode cX4_bestBow 71 = .ok (.aload_n 0, 1) := by decide +kernel
theorem dX4_bestBow_72 : decode cX4_bestBow 72 = .ok (.getfield 44, 3) := by decide +kernel
theorem dX4_bestBow_75 : decode cX4_bestBow 75 = .ok (.iload_n 3, 1) := by decide +kernel
theorem dX4_bestBow_76 : decode cX4_bestBow 76 = .ok (.iconst 0, 1) := by decide +kernel
theorem dX4_bestBow_77 : decode cX4_bestBow 77 = .ok (.invokevirtual 76, 3) := by decide +kernel
theorem dX4_bestBow_80 : decode cX4_bestBow 80 = .ok (.aload_n 0, 1) := by decide +kernel
theorem dX4_bestBow_81 : decode cX4_bestBow 81 = .ok (.getfield 37, 3) := by decide +kernel
theorem dX4_bestBow_84 : decode cX4_bestBow 84 = .ok (.aload_n 0, 1) := by decide +kernel
theorem dX4_bestBow_85 : decode cX4_bestBow 85 = .ok (.getfield 44, 3) := by decide +kernel
theorem dX4_bestBow_88 : decode cX4_bestBow 88 = .ok (.iconst 0, 1) := by decide +kernel
theorem dX4_bestBow_89 : decode cX4_bestBow 89 = .ok (.invokevirtual 126, 3) := by decide +kernel
theorem dX4_bestBow_92 : decode cX4_bestBow 92 = .ok (.aload_n 0, 1) := by decide +kernel
theorem dX4_bestBow_93 : decode cX4_bestBow 93 = .ok (.getfield 37, 3) := by decide +kernel
theorem dX4_bestBow_96 : decode cX4_bestBow 96 = .ok (.getfield 136, 3) := by decide +kernel
theorem dX4_bestBow_99 : decode cX4_bestBow 99 = .ok (.iload_n 1, 1) := by decide +kernel
theorem dX4_bestBow_100 : decode cX4_bestBow 100 = .ok (.if_icmp .le 13, 3) := by decide +kernel
theorem dX4_bestBow_103 : decode cX4_bestBow 103 = .ok (.aload_n 0, 1) := by decide +kernel
theorem dX4_bestBow_104 : decode cX4_bestBow 104 = .ok (.getfield 37, 3) := by decide +kernel
theorem dX4_bestBow_107 : decode cX4_bestBow 107 = .ok (.getfield 136, 3) := by decide +kernel
theorem dX4_bestBow_110 : decode cX4_bestBow 110 = .ok (.istore_n 1, 1) := by decide +kernel
theorem dX4_bestBow_111 : decode cX4_bestBow 111 = .ok (.iload_n 3, 1) := by decide +kernel
theorem dX4_bestBow_112 : decode cX4_bestBow 112 = .ok (.istore_n 2, 1) := by decide +kernel
theorem dX4_bestBow_113 : decode cX4_bestBow 113 = .ok (.iinc 3 1, 3) := by decide +kernel
theorem dX4_bestBow_116 : decode cX4_bestBow 116 = .ok (.goto (-65), 3) := by decide +kernel
theorem dX4_bestBow_119 : decode cX4_bestBow 119 = .ok (.iload_n 2, 1) := by decide +kernel
theorem dX4_bestBow_120 : decode cX4_bestBow 120 = .ok (.ireturn, 1) := by decide +kernel
theorem dX4_darling_0 : decode cX4_darling 0 = .ok (.iconst 0, 1) := by decide +kernel
theorem dX4_darling_1 : decode cX4_darling 1 = .ok (.istore_n 1, 1) := by decide +kernel
theorem dX4_darling_2 : decode cX4_darling 2 = .ok (.iconst 1, 1) := by decide +kernel
theorem dX4_darling_3 : decode cX4_darling 3 = .ok (.istore_n 2, 1) := by decide +kernel
theorem dX4_darling_4 : decode cX4_darling 4 = .ok (.iload_n 2, 1) := by decide +kernel
theorem dX4_darling_5 : decode cX4_darling 5 = .ok (.bipush 6, 2) := by decide +kernel
theorem dX4_darling_7 : decode cX4_darling 7 = .ok (.if_icmp .ge 24, 3) := by decide +kernel
theorem dX4_darling_10 : decode cX4_darling 10 = .ok (.aload_n 0, 1) := by decide +kernel
theorem dX4_darling_11 : decode cX4_darling 11 = .ok (.iload_n 2, 1) := by decide +kernel
theorem dX4_darling_12 : decode cX4_darling 12 = .ok (.invokevirtual 164, 3) := by decide +kernel
theorem dX4_darling_15 : decode cX4_darling 15 = .ok (.aload_n 0, 1) := by decide +kernel
theorem dX4_darling_16 : decode cX4_darling 16 = .ok (.iload_n 1, 1) := by decide +kernel
theorem dX4_darling_17 : decode cX4_darling 17 = .ok (.invokevirtual 164, 3) := by decide +kernel
theorem dX4_darling_20 : decode cX4_darling 20 = .ok (.if_icmp .le 5, 3) := by decide +kernel
theorem dX4_darling_23 : decode cX4_darling 23 = .ok (.iload_n 2, 1) := by decide +kernel
theorem dX4_darling_24 : decode cX4_darling 24 = .ok (.istore_n 1, 1) := by decide +kernel
theorem dX4_darling_25 : decode cX4_darling 25 = .ok (.iinc 2 1, 3) := by decide +kernel
theorem dX4_darling_28 : decode cX4_darling 28 = .ok (.goto (-24), 3) := by decide +kernel
theorem dX4_darling_31 : decode cX4_darling 31 = .ok (.iload_n 1, 1) := by decide +kernel
theorem dX4_darling_32 : decode cX4_darling 32 = .ok (.ireturn, 1) := by decide +kernel
theorem dX4_put_0 : decode cX4_put 0 = .ok (.lload_n 1, 1) := by decide +kernel
theorem dX4_put_1 : decode cX4_put 1 = .ok (.invokestatic 176, 3) := by decide +kernel
theorem dX4_put_4 : decode cX4_put 4 = .ok (.istore_n 3, 1) := by decide +kernel
theorem dX4_put_5 : decode cX4_put 5 = .ok (.iload_n 3, 1) := by decide +kernel
theorem dX4_put_6 : decode cX4_put 6 = .ok (.ifCond .ne 6, 3) := by decide +kernel
theorem dX4_put_9 : decode cX4_put 9 = .ok (.ldc 47, 2) := by decide +kernel
theorem dX4_put_11 : decode cX4_put 11 = .ok (.ireturn, 1) := by decide +kernel
theorem dX4_put_12 : decode cX4_put 12 = .ok (.aload_n 0, 1) := by decide +kernel
theorem dX4_put_13 : decode cX4_put 13 = .ok (.getfield 19, 3) := by decide +kernel
theorem dX4_put_16 : decode cX4_put 16 = .ok (.getfield 97, 3) := by decide +kernel
theorem dX4_put_19 : decode cX4_put 19 = .ok (.iload_n 3, 1) := by decide +kernel
theorem dX4_put_20 : decode cX4_put 20 = .ok (.iadd, 1) := by decide +kernel
theorem dX4_put_21 : decode cX4_put 21 = .ok (.bipush 60, 2) := by decide +kernel
theorem dX4_put_23 : decode cX4_put 23 = .ok (.if_icmp .le 6, 3) := by decide +kernel
theorem dX4_put_26 : decode cX4_put 26 = .ok (.ldc 71, 2) := by decide +kernel
theorem dX4_put_28 : decode cX4_put 28 = .ok (.ireturn, 1) := by decide +kernel
theorem dX4_put_29 : decode cX4_put 29 = .ok (.iload_n 3, 1) := by decide +kernel
theorem dX4_put_30 : decode cX4_put 30 = .ok (.iconst 1, 1) := by decide +kernel
theorem dX4_put_31 : decode cX4_put 31 = .ok (.isub, 1) := by decide +kernel
theorem dX4_put_32 : decode cX4_put 32 = .ok (.istore 4, 2) := by decide +kernel
theorem dX4_put_34 : decode cX4_put 34 = .ok (.iload 4, 2) := by decide +kernel
theorem dX4_put_36 : decode cX4_put 36 = .ok (.ifCond .lt 23, 3) := by decide +kernel
theorem dX4_put_39 : decode cX4_put 39 = .ok (.aload_n 0, 1) := by decide +kernel
theorem dX4_put_40 : decode cX4_put 40 = .ok (.getfield 19, 3) := by decide +kernel
theorem dX4_put_43 : decode cX4_put 43 = .ok (.lload_n 1, 1) := by decide +kernel
theorem dX4_put_44 : decode cX4_put 44 = .ok (.iload 4, 2) := by decide +kernel
theorem dX4_put_46 : decode cX4_put 46 = .ok (.invokestatic 180, 3) := by decide +kernel
theorem dX4_put_49 : decode cX4_put 49 = .ok (.i2c, 1) := by decide +kernel
theorem dX4_put_50 : decode cX4_put 50 = .ok (.invokevirtual 184, 3) := by decide +kernel
theorem dX4_put_53 : decode cX4_put 53 = .ok (.iinc 4 (-1), 3) := by decide +kernel
theorem dX4_put_56 : decode cX4_put 56 = .ok (.goto (-22), 3) := by decide +kernel
theorem dX4_put_59 : decode cX4_put 59 = .ok (.aload_n 0, 1) := by decide +kernel
theorem dX4_put_60 : decode cX4_put 60 = .ok (.getfield 19, 3) := by decide +kernel
theorem dX4_put_63 : decode cX4_put 63 = .ok (.getfield 97, 3) := by decide +kernel
theorem dX4_put_66 : decode cX4_put 66 = .ok (.ireturn, 1) := by decide +kernel
theorem dX4_wipe_0 : decode cX4_wipe 0 = .ok (.aload_n 0, 1) := by decide +kernel
theorem dX4_wipe_1 : decode cX4_wipe 1 = .ok (.getfield 19, 3) := by decide +kernel
theorem dX4_wipe_4 : decode cX4_wipe 4 = .ok (.getfield 97, 3) := by decide +kernel
theorem dX4_wipe_7 : decode cX4_wipe 7 = .ok (.istore_n 1, 1) := by decide +kernel
theorem dX4_wipe_8 : decode cX4_wipe 8 = .ok (.aload_n 0, 1) := by decide +kernel
theorem dX4_wipe_9 : decode cX4_wipe 9 = .ok (.getfield 19, 3) := by decide +kernel
theorem dX4_wipe_12 : decode cX4_wipe 12 = .ok (.iconst 0, 1) := by decide +kernel
theorem dX4_wipe_13 : decode cX4_wipe 13 = .ok (.putfield 97, 3) := by decide +kernel
theorem dX4_wipe_16 : decode cX4_wipe 16 = .ok (.iload_n 1, 1) := by decide +kernel
theorem dX4_wipe_17 : decode cX4_wipe 17 = .ok (.ireturn, 1) := by decide +kernel
theorem dX4_fault_0 : decode cX4_fault 0 = .ok (.aload_n 0, 1) := by decide +kernel
theorem dX4_fault_1 : decode cX4_fault 1 = .ok (.getfield 19, 3) := by decide +kernel
theorem dX4_fault_4 : decode cX4_fault 4 = .ok (.invokevirtual 85, 3) := by decide +kernel
theorem dX4_fault_7 : decode cX4_fault 7 = .ok (.ireturn, 1) := by decide +kernel
theorem dX4_undo_0 : decode cX4_undo 0 = .ok (.aload_n 0, 1) := by decide +kernel
theorem dX4_undo_1 : decode cX4_undo 1 = .ok (.getfield 26, 3) := by decide +kernel
theorem dX4_undo_4 : decode cX4_undo 4 = .ok (.aload_n 0, 1) := by decide +kernel
theorem dX4_undo_5 : decode cX4_undo 5 = .ok (.getfield 10, 3) := by decide +kernel
theorem dX4_undo_8 : decode cX4_undo 8 = .ok (.invokevirtual 188, 3) := by decide +kernel
theorem dX4_undo_11 : decode cX4_undo 11 = .ok (.ifCond .ne 6, 3) := by decide +kernel
theorem dX4_undo_14 : decode cX4_undo 14 = .ok (.ldc 80, 2) := by decide +kernel
theorem dX4_undo_16 : decode cX4_undo 16 = .ok (.ireturn, 1) := by decide +kernel
theorem dX4_undo_17 : decode cX4_undo 17 = .ok (.aload_n 0, 1) := by decide +kernel
theorem dX4_undo_18 : decode cX4_undo 18 = .ok (.getfield 26, 3) := by decide +kernel
theorem dX4_undo_21 : decode cX4_undo 21 = .ok (.getfield 161, 3) := by decide +kernel
theorem dX4_undo_24 : decode cX4_undo 24 = .ok (.ireturn, 1) := by decide +kernel
theorem dX4_save_0 : decode cX4_save 0 = .ok (.iload_n 1, 1) := by decide +kernel
theorem dX4_save_1 : decode cX4_save 1 = .ok (.invokestatic 192, 3) := by decide +kernel
theorem dX4_save_4 : decode cX4_save 4 = .ok (.ifCond .ne 6, 3) := by decide +kernel
theorem dX4_save_7 : decode cX4_save 7 = .ok (.ldc 47, 2) := by decide +kernel
theorem dX4_save_9 : decode cX4_save 9 = .ok (.ireturn, 1) := by decide +kernel
theorem dX4_save_10 : decode cX4_save 10 = .ok (.aload_n 0, 1) := by decide +kernel
theorem dX4_save_11 : decode cX4_save 11 = .ok (.getfield 30, 3) := by decide +kernel
theorem dX4_save_14 : decode cX4_save 14 = .ok (.iload_n 1, 1) := by decide +kernel
theorem dX4_save_15 : decode cX4_save 15 = .ok (.aload_n 0, 1) := by decide +kernel
theorem dX4_save_16 : decode cX4_save 16 = .ok (.getfield 10, 3) := by decide +kernel
theorem dX4_save_19 : decode cX4_save 19 = .ok (.aload_n 0, 1) := by decide +kernel
theorem dX4_save_20 : decode cX4_save 20 = .ok (.getfield 30, 3) := by decide +kernel
theorem dX4_save_23 : decode cX4_save 23 = .ok (.iload_n 1, 1) := by decide +kernel
theorem dX4_save_24 : decode cX4_save 24 = .ok (.aaload, 1) := by decide +kernel
theorem dX4_save_25 : decode cX4_save 25 = .ok (.invokestatic 195, 3) := by decide +kernel
theorem dX4_save_28 : decode cX4_save 28 = .ok (.aastore, 1) := by decide +kernel
theorem dX4_save_29 : decode cX4_save 29 = .ok (.aload_n 0, 1) := by decide +kernel
theorem dX4_save_30 : decode cX4_save 30 = .ok (.getfield 10, 3) := by decide +kernel
theorem dX4_save_33 : decode cX4_save 33 = .ok (.getfield 67, 3) := by decide +kernel
theorem dX4_save_36 : decode cX4_save 36 = .ok (.ireturn, 1) := by decide +kernel
theorem dX4_restore_0 : decode cX4_restore 0 = .ok (.iload_n 1, 1) := by decide +kernel
theorem dX4_restore_1 : decode cX4_restore 1 = .ok (.invokestatic 192, 3) := by decide +kernel
theorem dX4_restore_4 : decode cX4_restore 4 = .ok (.ifCond .ne 6, 3) := by decide +kernel
theorem dX4_restore_7 : decode cX4_restore 7 = .ok (.ldc 47, 2) := by decide +kernel
theorem dX4_restore_9 : decode cX4_restore 9 = .ok (.ireturn, 1) := by decide +kernel
theorem dX4_restore_10 : decode cX4_restore 10 = .ok (.aload_n 0, 1) := by decide +kernel
theorem dX4_restore_11 : decode cX4_restore 11 = .ok (.getfield 30, 3) := by decide +kernel
theorem dX4_restore_14 : decode cX4_restore 14 = .ok (.iload_n 1, 1) := by decide +kernel
theorem dX4_restore_15 : decode cX4_restore 15 = .ok (.aaload, 1) := by decide +kernel
theorem dX4_restore_16 : decode cX4_restore 16 = .ok (.astore_n 2, 1) := by decide +kernel
theorem dX4_restore_17 : decode cX4_restore 17 = .ok (.aload_n 2, 1) := by decide +kernel
theorem dX4_restore_18 : decode cX4_restore 18 = .ok (.ifnonnull 6, 3) := by decide +kernel
theorem dX4_restore_21 : decode cX4_restore 21 = .ok (.ldc 80, 2) := by decide +kernel
theorem dX4_restore_23 : decode cX4_restore 23 = .ok (.ireturn, 1) := by decide +kernel
theorem dX4_restore_24 : decode cX4_restore 24 = .ok (.aload_n 0, 1) := by decide +kernel
theorem dX4_restore_25 : decode cX4_restore 25 = .ok (.getfield 26, 3) := by decide +kernel
theorem dX4_restore_28 : decode cX4_restore 28 = .ok (.aload_n 0, 1) := by decide +kernel
theorem dX4_restore_29 : decode cX4_restore 29 = .ok (.getfield 10, 3) := by decide +kernel
theorem dX4_restore_32 : decode cX4_restore 32 = .ok (.invokevirtual 48, 3) := by decide +kernel
theorem dX4_restore_35 : decode cX4_restore 35 = .ok (.aload_n 0, 1) := by decide +kernel
theorem dX4_restore_36 : decode cX4_restore 36 = .ok (.getfield 10, 3) := by decide +kernel
theorem dX4_restore_39 : decode cX4_restore 39 = .ok (.aload_n 2, 1) := by decide +kernel
theorem dX4_restore_40 : decode cX4_restore 40 = .ok (.invokevirtual 173, 3) := by decide +kernel
theorem dX4_restore_43 : decode cX4_restore 43 = .ok (.aload_n 0, 1) := by decide +kernel
theorem dX4_restore_44 : decode cX4_restore 44 = .ok (.getfield 10, 3) := by decide +kernel
theorem dX4_restore_47 : decode cX4_restore 47 = .ok (.getfield 67, 3) := by decide +kernel
theorem dX4_restore_50 : decode cX4_restore 50 = .ok (.ireturn, 1) := by decide +kernel
theorem dX4_isCourtier_0 : decode cX4_isCourtier 0 = .ok (.iload_n 0, 1) := by decide +kernel
theorem dX4_isCourtier_1 : decode cX4_isCourtier 1 = .ok (.ifCond .lt 13, 3) := by decide +kernel
theorem dX4_isCourtier_4 : decode cX4_isCourtier 4 = .ok (.iload_n 0, 1) := by decide +kernel
theorem dX4_isCourtier_5 : decode cX4_isCourtier 5 = .ok (.bipush 6, 2) := by decide +kernel
theorem dX4_isCourtier_7 : decode cX4_isCourtier 7 = .ok (.if_icmp .ge 7, 3) := by decide +kernel
theorem dX4_isCourtier_10 : decode cX4_isCourtier 10 = .ok (.iconst 1, 1) := by decide +kernel
theorem dX4_isCourtier_11 : decode cX4_isCourtier 11 = .ok (.goto 4, 3) := by decide +kernel
theorem dX4_isCourtier_14 : decode cX4_isCourtier 14 = .ok (.iconst 0, 1) := by decide +kernel
theorem dX4_isCourtier_15 : decode cX4_isCourtier 15 = .ok (.ireturn, 1) := by decide +kernel
theorem dX4_areEyes_0 : decode cX4_areEyes 0 = .ok (.iload_n 0, 1) := by decide +kernel
theorem dX4_areEyes_1 : decode cX4_areEyes 1 = .ok (.ifCond .lt 12, 3) := by decide +kernel
theorem dX4_areEyes_4 : decode cX4_areEyes 4 = .ok (.iload_n 0, 1) := by decide +kernel
theorem dX4_areEyes_5 : decode cX4_areEyes 5 = .ok (.iconst 3, 1) := by decide +kernel
theorem dX4_areEyes_6 : decode cX4_areEyes 6 = .ok (.if_icmp .ge 7, 3) := by decide +kernel
theorem dX4_areEyes_9 : decode cX4_areEyes 9 = .ok (.iconst 1, 1) := by decide +kernel
theorem dX4_areEyes_10 : decode cX4_areEyes 10 = .ok (.goto 4, 3) := by decide +kernel
theorem dX4_areEyes_13 : decode cX4_areEyes 13 = .ok (.iconst 0, 1) := by decide +kernel
theorem dX4_areEyes_14 : decode cX4_areEyes 14 = .ok (.ireturn, 1) := by decide +kernel
theorem dX4_isSlot_0 : decode cX4_isSlot 0 = .ok (.iload_n 0, 1) := by decide +kernel
theorem dX4_isSlot_1 : decode cX4_isSlot 1 = .ok (.ifCond .lt 12, 3) := by decide +kernel
theorem dX4_isSlot_4 : decode cX4_isSlot 4 = .ok (.iload_n 0, 1) := by decide +kernel
theorem dX4_isSlot_5 : decode cX4_isSlot 5 = .ok (.iconst 2, 1) := by decide +kernel
theorem dX4_isSlot_6 : decode cX4_isSlot 6 = .ok (.if_icmp .ge 7, 3) := by decide +kernel
theorem dX4_isSlot_9 : decode cX4_isSlot 9 = .ok (.iconst 1, 1) := by decide +kernel
theorem dX4_isSlot_10 : decode cX4_isSlot 10 = .ok (.goto 4, 3) := by decide +kernel
theorem dX4_isSlot_13 : decode cX4_isSlot 13 = .ok (.iconst 0, 1) := by decide +kernel
theorem dX4_isSlot_14 : decode cX4_isSlot 14 = .ok (.ireturn, 1) := by decide +kernel
theorem dX4_codesIn_0 : decode cX4_codesIn 0 = .ok (.iconst 0, 1) := by decide +kernel
theorem dX4_codesIn_1 : decode cX4_codesIn 1 = .ok (.istore_n 2, 1) := by decide +kernel
theorem dX4_codesIn_2 : decode cX4_codesIn 2 = .ok (.iload_n 2, 1) := by decide +kernel
theorem dX4_codesIn_3 : decode cX4_codesIn 3 = .ok (.bipush 8, 2) := by decide +kernel
theorem dX4_codesIn_5 : decode cX4_codesIn 5 = .ok (.if_icmp .ge 37, 3) := by decide +kernel
theorem dX4_codesIn_8 : decode cX4_codesIn 8 = .ok (.lload_n 0, 1) := by decide +kernel
theorem dX4_codesIn_9 : decode cX4_codesIn 9 = .ok (.iload_n 2, 1) := by decide +kernel
theorem dX4_codesIn_10 : decode cX4_codesIn 10 = .ok (.invokestatic 180, 3) := by decide +kernel
theorem dX4_codesIn_13 : decode cX4_codesIn 13 = .ok (.ifCond .eq 29, 3) := by decide +kernel
theorem dX4_codesIn_16 : decode cX4_codesIn 16 = .ok (.lload_n 0, 1) := by decide +kernel
theorem dX4_codesIn_17 : decode cX4_codesIn 17 = .ok (.iload_n 2, 1) := by decide +kernel
theorem dX4_codesIn_18 : decode cX4_codesIn 18 = .ok (.invokestatic 180, 3) := by decide +kernel
theorem dX4_codesIn_21 : decode cX4_codesIn 21 = .ok (.istore_n 3, 1) := by decide +kernel
theorem dX4_codesIn_22 : decode cX4_codesIn 22 = .ok (.iload_n 3, 1) := by decide +kernel
theorem dX4_codesIn_23 : decode cX4_codesIn 23 = .ok (.bipush 33, 2) := by decide +kernel
theorem dX4_codesIn_25 : decode cX4_codesIn 25 = .ok (.if_icmp .lt 9, 3) := by decide +kernel
theorem dX4_codesIn_28 : decode cX4_codesIn 28 = .ok (.iload_n 3, 1) := by decide +kernel
theorem dX4_codesIn_29 : decode cX4_codesIn 29 = .ok (.bipush 126, 2) := by decide +kernel
theorem dX4_codesIn_31 : decode cX4_codesIn 31 = .ok (.if_icmp .le 5, 3) := by decide +kernel
theorem dX4_codesIn_34 : decode cX4_codesIn 34 = .ok (.iconst 0, 1) := by decide +kernel
theorem dX4_codesIn_35 : decode cX4_codesIn 35 = .ok (.ireturn, 1) := by decide +kernel
theorem dX4_codesIn_36 : decode cX4_codesIn 36 = .ok (.iinc 2 1, 3) := by decide +kernel
theorem dX4_codesIn_39 : decode cX4_codesIn 39 = .ok (.goto (-37), 3) := by decide +kernel
theorem dX4_codesIn_42 : decode cX4_codesIn 42 = .ok (.iload_n 2, 1) := by decide +kernel
theorem dX4_codesIn_43 : decode cX4_codesIn 43 = .ok (.bipush 8, 2) := by decide +kernel
theorem dX4_codesIn_45 : decode cX4_codesIn 45 = .ok (.if_icmp .ge 18, 3) := by decide +kernel
theorem dX4_codesIn_48 : decode cX4_codesIn 48 = .ok (.lload_n 0, 1) := by decide +kernel
theorem dX4_codesIn_49 : decode cX4_codesIn 49 = .ok (.bipush 8, 2) := by decide +kernel
theorem dX4_codesIn_51 : decode cX4_codesIn 51 = .ok (.iload_n 2, 1) := by decide +kernel
theorem dX4_codesIn_52 : decode cX4_codesIn 52 = .ok (.imul, 1) := by decide +kernel
theorem dX4_codesIn_53 : decode cX4_codesIn 53 = .ok (.lushr, 1) := by decide +kernel
theorem dX4_codesIn_54 : decode cX4_codesIn 54 = .ok (.lconst 0, 1) := by decide +kernel
theorem dX4_codesIn_55 : decode cX4_codesIn 55 = .ok (.lcmp, 1) := by decide +kernel
theorem dX4_codesIn_56 : decode cX4_codesIn 56 = .ok (.ifCond .eq 7, 3) := by decide +kernel
theorem dX4_codesIn_59 : decode cX4_codesIn 59 = .ok (.iconst 1, 1) := by decide +kernel
theorem dX4_codesIn_60 : decode cX4_codesIn 60 = .ok (.goto 4, 3) := by decide +kernel
theorem dX4_codesIn_63 : decode cX4_codesIn 63 = .ok (.iconst 0, 1) := by decide +kernel
theorem dX4_codesIn_64 : decode cX4_codesIn 64 = .ok (.istore_n 3, 1) := by decide +kernel
theorem dX4_codesIn_65 : decode cX4_codesIn 65 = .ok (.iload_n 3, 1) := by decide +kernel
theorem dX4_codesIn_66 : decode cX4_codesIn 66 = .ok (.ifCond .eq 7, 3) := by decide +kernel
theorem dX4_codesIn_69 : decode cX4_codesIn 69 = .ok (.iconst 0, 1) := by decide +kernel
theorem dX4_codesIn_70 : decode cX4_codesIn 70 = .ok (.goto 4, 3) := by decide +kernel
theorem dX4_codesIn_73 : decode cX4_codesIn 73 = .ok (.iload_n 2, 1) := by decide +kernel
theorem dX4_codesIn_74 : decode cX4_codesIn 74 = .ok (.ireturn, 1) := by decide +kernel
theorem dX4_codeAt_0 : decode cX4_codeAt 0 = .ok (.lload_n 0, 1) := by decide +kernel
theorem dX4_codeAt_1 : decode cX4_codeAt 1 = .ok (.bipush 8, 2) := by decide +kernel
theorem dX4_codeAt_3 : decode cX4_codeAt 3 = .ok (.iload_n 2, 1) := by decide +kernel
theorem dX4_codeAt_4 : decode cX4_codeAt 4 = .ok (.imul, 1) := by decide +kernel
theorem dX4_codeAt_5 : decode cX4_codeAt 5 = .ok (.lushr, 1) := by decide +kernel
theorem dX4_codeAt_6 : decode cX4_codeAt 6 = .ok (.l2i, 1) := by decide +kernel
theorem dX4_codeAt_7 : decode cX4_codeAt 7 = .ok (.sipush 255, 3) := by decide +kernel
theorem dX4_codeAt_10 : decode cX4_codeAt 10 = .ok (.iand, 1) := by decide +kernel
theorem dX4_codeAt_11 : decode cX4_codeAt 11 = .ok (.ireturn, 1) := by decide +kernel
theorem dX4_bowNumber_0 : decode cX4_bowNumber 0 = .ok (.iconst 2, 1) := by decide +kernel
theorem dX4_bowNumber_1 : decode cX4_bowNumber 1 = .ok (.iload_n 0, 1) := by decide +kernel
theorem dX4_bowNumber_2 : decode cX4_bowNumber 2 = .ok (.iconst 1, 1) := by decide +kernel
theorem dX4_bowNumber_3 : decode cX4_bowNumber 3 = .ok (.isub, 1) := by decide +kernel
theorem dX4_bowNumber_4 : decode cX4_bowNumber 4 = .ok (.imul, 1) := by decide +kernel
theorem dX4_bowNumber_5 : decode cX4_bowNumber 5 = .ok (.iload_n 1, 1) := by decide +kernel
theorem dX4_bowNumber_6 : decode cX4_bowNumber 6 = .ok (.iadd, 1) := by decide +kernel
theorem dX4_bowNumber_7 : decode cX4_bowNumber 7 = .ok (.ireturn, 1) := by decide +kernel
theorem dX4_isNameOfCourtier_0 : decode cX4_isNameOfCourtier 0 = .ok (.iload_n 0, 1) := by decide +kernel
theorem dX4_isNameOfCourtier_1 : decode cX4_isNameOfCourtier 1 = .ok (.ifCond .lt 13, 3) := by decide +kernel
theorem dX4_isNameOfCourtier_4 : decode cX4_isNameOfCourtier 4 = .ok (.iload_n 0, 1) := by decide +kernel
theorem dX4_isNameOfCourtier_5 : decode cX4_isNameOfCourtier 5 = .ok (.bipush 6, 2) := by decide +kernel
theorem dX4_isNameOfCourtier_7 : decode cX4_isNameOfCourtier 7 = .ok (.if_icmp .ge 7, 3) := by decide +kernel
theorem dX4_isNameOfCourtier_10 : decode cX4_isNameOfCourtier 10 = .ok (.iconst 1, 1) := by decide +kernel
theorem dX4_isNameOfCourtier_11 : decode cX4_isNameOfCourtier 11 = .ok (.goto 4, 3) := by decide +kernel
theorem dX4_isNameOfCourtier_14 : decode cX4_isNameOfCourtier 14 = .ok (.iconst 0, 1) := by decide +kernel
theorem dX4_isNameOfCourtier_15 : decode cX4_isNameOfCourtier 15 = .ok (.ireturn, 1) := by decide +kernel
theorem dX4_isDeed_0 : decode cX4_isDeed 0 = .ok (.iload_n 0, 1) := by decide +kernel
theorem dX4_isDeed_1 : decode cX4_isDeed 1 = .ok (.bipush 6, 2) := by decide +kernel
theorem dX4_isDeed_3 : decode cX4_isDeed 3 = .ok (.if_icmp .lt 13, 3) := by decide +kernel
theorem dX4_isDeed_6 : decode cX4_isDeed 6 = .ok (.iload_n 0, 1) := by decide +kernel
theorem dX4_isDeed_7 : decode cX4_isDeed 7 = .ok (.bipush 42, 2) := by decide +kernel
theorem dX4_isDeed_9 : decode cX4_isDeed 9 = .ok (.if_icmp .ge 7, 3) := by decide +kernel
theorem dX4_isDeed_12 : decode cX4_isDeed 12 = .ok (.iconst 1, 1) := by decide +kernel
theorem dX4_isDeed_13 : decode cX4_isDeed 13 = .ok (.goto 4, 3) := by decide +kernel
theorem dX4_isDeed_16 : decode cX4_isDeed 16 = .ok (.iconst 0, 1) := by decide +kernel
theorem dX4_isDeed_17 : decode cX4_isDeed 17 = .ok (.ireturn, 1) := by decide +kernel
theorem dX4_isFlourish_0 : decode cX4_isFlourish 0 = .ok (.iload_n 0, 1) := by decide +kernel
theorem dX4_isFlourish_1 : decode cX4_isFlourish 1 = .ok (.bipush 42, 2) := by decide +kernel
theorem dX4_isFlourish_3 : decode cX4_isFlourish 3 = .ok (.if_icmp .lt 7, 3) := by decide +kernel
theorem dX4_isFlourish_6 : decode cX4_isFlourish 6 = .ok (.iconst 1, 1) := by decide +kernel
theorem dX4_isFlourish_7 : decode cX4_isFlourish 7 = .ok (.goto 4, 3) := by decide +kernel
theorem dX4_isFlourish_10 : decode cX4_isFlourish 10 = .ok (.iconst 0, 1) := by decide +kernel
theorem dX4_isFlourish_11 : decode cX4_isFlourish 11 = .ok (.ireturn, 1) := by decide +kernel
theorem dX4_at_0 : decode cX4_at 0 = .ok (.iload_n 1, 1) := by decide +kernel
theorem dX4_at_1 : decode cX4_at 1 = .ok (.ifCond .lt 15, 3) := by decide +kernel
theorem dX4_at_4 : decode cX4_at 4 = .ok (.iload_n 1, 1) := by decide +kernel
theorem dX4_at_5 : decode cX4_at 5 = .ok (.aload_n 0, 1) := by decide +kernel
theorem dX4_at_6 : decode cX4_at 6 = .ok (.arraylength, 1) := by decide +kernel
theorem dX4_at_7 : decode cX4_at 7 = .ok (.if_icmp .ge 9, 3) := by decide +kernel
theorem dX4_at_10 : decode cX4_at 10 = .ok (.aload_n 0, 1) := by decide +kernel
theorem dX4_at_11 : decode cX4_at 11 = .ok (.iload_n 1, 1) := by decide +kernel
theorem dX4_at_12 : decode cX4_at 12 = .ok (.iaload, 1) := by decide +kernel
theorem dX4_at_13 : decode cX4_at 13 = .ok (.goto 4, 3) := by decide +kernel
theorem dX4_at_16 : decode cX4_at 16 = .ok (.iconst 0, 1) := by decide +kernel
theorem dX4_at_17 : decode cX4_at 17 = .ok (.ireturn, 1) := by decide +kernel
theorem dX4_copyRow_0 : decode cX4_copyRow 0 = .ok (.iconst 0, 1) := by decide +kernel
theorem dX4_copyRow_1 : decode cX4_copyRow 1 = .ok (.istore_n 2, 1) := by decide +kernel
theorem dX4_copyRow_2 : decode cX4_copyRow 2 = .ok (.iload_n 2, 1) := by decide +kernel
theorem dX4_copyRow_3 : decode cX4_copyRow 3 = .ok (.aload_n 0, 1) := by decide +kernel
theorem dX4_copyRow_4 : decode cX4_copyRow 4 = .ok (.arraylength, 1) := by decide +kernel
theorem dX4_copyRow_5 : decode cX4_copyRow 5 = .ok (.if_icmp .ge 21, 3) := by decide +kernel
theorem dX4_copyRow_8 : decode cX4_copyRow 8 = .ok (.iload_n 2, 1) := by decide +kernel
theorem dX4_copyRow_9 : decode cX4_copyRow 9 = .ok (.aload_n 1, 1) := by decide +kernel
theorem dX4_copyRow_10 : decode cX4_copyRow 10 = .ok (.arraylength, 1) := by decide +kernel
theorem dX4_copyRow_11 : decode cX4_copyRow 11 = .ok (.if_icmp .ge 15, 3) := by decide +kernel
theorem dX4_copyRow_14 : decode cX4_copyRow 14 = .ok (.aload_n 1, 1) := by decide +kernel
theorem dX4_copyRow_15 : decode cX4_copyRow 15 = .ok (.iload_n 2, 1) := by decide +kernel
theorem dX4_copyRow_16 : decode cX4_copyRow 16 = .ok (.aload_n 0, 1) := by decide +kernel
theorem dX4_copyRow_17 : decode cX4_copyRow 17 = .ok (.iload_n 2, 1) := by decide +kernel
theorem dX4_copyRow_18 : decode cX4_copyRow 18 = .ok (.iaload, 1) := by decide +kernel
theorem dX4_copyRow_19 : decode cX4_copyRow 19 = .ok (.iastore, 1) := by decide +kernel
theorem dX4_copyRow_20 : decode cX4_copyRow 20 = .ok (.iinc 2 1, 3) := by decide +kernel
theorem dX4_copyRow_23 : decode cX4_copyRow 23 = .ok (.goto (-21), 3) := by decide +kernel
theorem dX4_copyRow_26 : decode cX4_copyRow 26 = .ok (.return_, 1) := by decide +kernel
theorem dX4_copyOf_0 : decode cX4_copyOf 0 = .ok (.aload_n 1, 1) := by decide +kernel
theorem dX4_copyOf_1 : decode cX4_copyOf 1 = .ok (.ifnonnull 13, 3) := by decide +kernel
theorem dX4_copyOf_4 : decode cX4_copyOf 4 = .ok (.new 7, 3) := by decide +kernel
theorem dX4_copyOf_7 : decode cX4_copyOf 7 = .ok (.dup, 1) := by decide +kernel
theorem dX4_copyOf_8 : decode cX4_copyOf 8 = .ok (.invokespecial 9, 3) := by decide +kernel
theorem dX4_copyOf_11 : decode cX4_copyOf 11 = .ok (.goto 4, 3) := by decide +kernel
theorem dX4_copyOf_14 : decode cX4_copyOf 14 = .ok (.aload_n 1, 1) := by decide +kernel
theorem dX4_copyOf_15 : decode cX4_copyOf 15 = .ok (.astore_n 2, 1) := by decide +kernel
theorem dX4_copyOf_16 : decode cX4_copyOf 16 = .ok (.aload_n 2, 1) := by decide +kernel
theorem dX4_copyOf_17 : decode cX4_copyOf 17 = .ok (.aload_n 0, 1) := by decide +kernel
theorem dX4_copyOf_18 : decode cX4_copyOf 18 = .ok (.invokevirtual 173, 3) := by decide +kernel
theorem dX4_copyOf_21 : decode cX4_copyOf 21 = .ok (.aload_n 2, 1) := by decide +kernel
theorem dX4_copyOf_22 : decode cX4_copyOf 22 = .ok (.areturn, 1) := by decide +kernel
theorem dX4_favourIndex_0 : decode cX4_favourIndex 0 = .ok (.bipush 6, 2) := by decide +kernel
theorem dX4_favourIndex_2 : decode cX4_favourIndex 2 = .ok (.iload_n 0, 1) := by decide +kernel
theorem dX4_favourIndex_3 : decode cX4_favourIndex 3 = .ok (.imul, 1) := by decide +kernel
theorem dX4_favourIndex_4 : decode cX4_favourIndex 4 = .ok (.iload_n 1, 1) := by decide +kernel
theorem dX4_favourIndex_5 : decode cX4_favourIndex 5 = .ok (.iadd, 1) := by decide +kernel
theorem dX4_favourIndex_6 : decode cX4_favourIndex 6 = .ok (.ireturn, 1) := by decide +kernel
theorem dX4_favoursForGiver_0 : decode cX4_favoursForGiver 0 = .ok (.iconst 0, 1) := by decide +kernel
theorem dX4_favoursForGiver_1 : decode cX4_favoursForGiver 1 = .ok (.istore_n 2, 1) := by decide +kernel
theorem dX4_favoursForGiver_2 : decode cX4_favoursForGiver 2 = .ok (.iconst 0, 1) := by decide +kernel
theorem dX4_favoursForGiver_3 : decode cX4_favoursForGiver 3 = .ok (.istore_n 3, 1) := by decide +kernel
theorem dX4_favoursForGiver_4 : decode cX4_favoursForGiver 4 = .ok (.iload_n 3, 1) := by decide +kernel
theorem dX4_favoursForGiver_5 : decode cX4_favoursForGiver 5 = .ok (.bipush 6, 2) := by decide +kernel
theorem dX4_favoursForGiver_7 : decode cX4_favoursForGiver 7 = .ok (.if_icmp .ge 27, 3) := by decide +kernel
theorem dX4_favoursForGiver_10 : decode cX4_favoursForGiver 10 = .ok (.iload_n 2, 1) := by decide +kernel
theorem dX4_favoursForGiver_11 : decode cX4_favoursForGiver 11 = .ok (.aload_n 0, 1) := by decide +kernel
theorem dX4_favoursForGiver_12 : decode cX4_favoursForGiver 12 = .ok (.getfield 10, 3) := by decide +kernel
theorem dX4_favoursForGiver_15 : decode cX4_favoursForGiver 15 = .ok (.getfield 111, 3) := by decide +kernel
theorem dX4_favoursForGiver_18 : decode cX4_favoursForGiver 18 = .ok (.iload_n 3, 1) := by decide +kernel
theorem dX4_favoursForGiver_19 : decode cX4_favoursForGiver 19 = .ok (.iload_n 1, 1) := by decide +kernel
theorem dX4_favoursForGiver_20 : decode cX4_favoursForGiver 20 = .ok (.invokestatic 114, 3) := by decide +kernel
theorem dX4_favoursForGiver_23 : decode cX4_favoursForGiver 23 = .ok (.invokestatic 145, 3) := by decide +kernel
theorem dX4_favoursForGiver_26 : decode cX4_favoursForGiver 26 = .ok (.iadd, 1) := by decide +kernel
theorem dX4_favoursForGiver_27 : decode cX4_favoursForGiver 27 = .ok (.istore_n 2, 1) := by decide +kernel
theorem dX4_favoursForGiver_28 : decode cX4_favoursForGiver 28 = .ok (.iinc 3 1, 3) := by decide +kernel
theorem dX4_favoursForGiver_31 : decode cX4_favoursForGiver 31 = .ok (.goto (-27), 3) := by decide +kernel
theorem dX4_favoursForGiver_34 : decode cX4_favoursForGiver 34 = .ok (.iload_n 2, 1) := by decide +kernel
theorem dX4_favoursForGiver_35 : decode cX4_favoursForGiver 35 = .ok (.ireturn, 1) := by decide +kernel
theorem dX4_favoursOfCourtier_0 : decode cX4_favoursOfCourtier 0 = .ok (.iconst 0, 1) := by decide +kernel
theorem dX4_favoursOfCourtier_1 : decode cX4_favoursOfCourtier 1 = .ok (.istore_n 2, 1) := by decide +kernel
theorem dX4_favoursOfCourtier_2 : decode cX4_favoursOfCourtier 2 = .ok (.iconst 0, 1) := by decide +kernel
theorem dX4_favoursOfCourtier_3 : decode cX4_favoursOfCourtier 3 = .ok (.istore_n 3, 1) := by decide +kernel
theorem dX4_favoursOfCourtier_4 : decode cX4_favoursOfCourtier 4 = .ok (.iload_n 3, 1) := by decide +kernel
theorem dX4_favoursOfCourtier_5 : decode cX4_favoursOfCourtier 5 = .ok (.bipush 6, 2) := by decide +kernel
theorem dX4_favoursOfCourtier_7 : decode cX4_favoursOfCourtier 7 = .ok (.if_icmp .ge 27, 3) := by decide +kernel
theorem dX4_favoursOfCourtier_10 : decode cX4_favoursOfCourtier 10 = .ok (.iload_n 2, 1) := by decide +kernel
theorem dX4_favoursOfCourtier_11 : decode cX4_favoursOfCourtier 11 = .ok (.aload_n 0, 1) := by decide +kernel
theorem dX4_favoursOfCourtier_12 : decode cX4_favoursOfCourtier 12 = .ok (.getfield 10, 3) := by decide +kernel
theorem dX4_favoursOfCourtier_15 : decode cX4_favoursOfCourtier 15 = .ok (.getfield 111, 3) := by decide +kernel
theorem dX4_favoursOfCourtier_18 : decode cX4_favoursOfCourtier 18 = .ok (.iload_n 1, 1) := by decide +kernel
theorem dX4_favoursOfCourtier_19 : decode cX4_favoursOfCourtier 19 = .ok (.iload_n 3, 1) := by decide +kernel
theorem dX4_favoursOfCourtier_20 : decode cX4_favoursOfCourtier 20 = .ok (.invokestatic 114, 3) := by decide +kernel
theorem dX4_favoursOfCourtier_23 : decode cX4_favoursOfCourtier 23 = .ok (.invokestatic 145, 3) := by decide +kernel
theorem dX4_favoursOfCourtier_26 : decode cX4_favoursOfCourtier 26 = .ok (.iadd, 1) := by decide +kernel
theorem dX4_favoursOfCourtier_27 : decode cX4_favoursOfCourtier 27 = .ok (.istore_n 2, 1) := by decide +kernel
theorem dX4_favoursOfCourtier_28 : decode cX4_favoursOfCourtier 28 = .ok (.iinc 3 1, 3) := by decide +kernel
theorem dX4_favoursOfCourtier_31 : decode cX4_favoursOfCourtier 31 = .ok (.goto (-27), 3) := by decide +kernel
theorem dX4_favoursOfCourtier_34 : decode cX4_favoursOfCourtier 34 = .ok (.iload_n 2, 1) := by decide +kernel
theorem dX4_favoursOfCourtier_35 : decode cX4_favoursOfCourtier 35 = .ok (.ireturn, 1) := by decide +kernel
theorem dX4_sumOfAllFavours_0 : decode cX4_sumOfAllFavours 0 = .ok (.iconst 0, 1) := by decide +kernel
theorem dX4_sumOfAllFavours_1 : decode cX4_sumOfAllFavours 1 = .ok (.istore_n 1, 1) := by decide +kernel
theorem dX4_sumOfAllFavours_2 : decode cX4_sumOfAllFavours 2 = .ok (.iconst 0, 1) := by decide +kernel
theorem dX4_sumOfAllFavours_3 : decode cX4_sumOfAllFavours 3 = .ok (.istore_n 2, 1) := by decide +kernel
theorem dX4_sumOfAllFavours_4 : decode cX4_sumOfAllFavours 4 = .ok (.iload_n 2, 1) := by decide +kernel
theorem dX4_sumOfAllFavours_5 : decode cX4_sumOfAllFavours 5 = .ok (.bipush 6, 2) := by decide +kernel
theorem dX4_sumOfAllFavours_7 : decode cX4_sumOfAllFavours 7 = .ok (.if_icmp .ge 17, 3) := by decide +kernel
theorem dX4_sumOfAllFavours_10 : decode cX4_sumOfAllFavours 10 = .ok (.iload_n 1, 1) := by decide +kernel
theorem dX4_sumOfAllFavours_11 : decode cX4_sumOfAllFavours 11 = .ok (.aload_n 0, 1) := by decide +kernel
theorem dX4_sumOfAllFavours_12 : decode cX4_sumOfAllFavours 12 = .ok (.iload_n 2, 1) := by decide +kernel
theorem dX4_sumOfAllFavours_13 : decode cX4_sumOfAllFavours 13 = .ok (.invokevirtual 167, 3) := by decide +kernel
theorem dX4_sumOfAllFavours_16 : decode cX4_sumOfAllFavours 16 = .ok (.iadd, 1) := by decide +kernel
theorem dX4_sumOfAllFavours_17 : decode cX4_sumOfAllFavours 17 = .ok (.istore_n 1, 1) := by decide +kernel
theorem dX4_sumOfAllFavours_18 : decode cX4_sumOfAllFavours 18 = .ok (.iinc 2 1, 3) := by decide +kernel
theorem dX4_sumOfAllFavours_21 : decode cX4_sumOfAllFavours 21 = .ok (.goto (-17), 3) := by decide +kernel
theorem dX4_sumOfAllFavours_24 : decode cX4_sumOfAllFavours 24 = .ok (.iload_n 1, 1) := by decide +kernel
theorem dX4_sumOfAllFavours_25 : decode cX4_sumOfAllFavours 25 = .ok (.ireturn, 1) := by decide +kernel
theorem dX4_canBeGiven_0 : decode cX4_canBeGiven 0 = .ok (.aload_n 0, 1) := by decide +kernel
theorem dX4_canBeGiven_1 : decode cX4_canBeGiven 1 = .ok (.getfield 41, 3) := by decide +kernel
theorem dX4_canBeGiven_4 : decode cX4_canBeGiven 4 = .ok (.aload_n 0, 1) := by decide +kernel
theorem dX4_canBeGiven_5 : decode cX4_canBeGiven 5 = .ok (.getfield 10, 3) := by decide +kernel
theorem dX4_canBeGiven_8 : decode cX4_canBeGiven 8 = .ok (.iconst 0, 1) := by decide +kernel
theorem dX4_canBeGiven_9 : decode cX4_canBeGiven 9 = .ok (.invokevirtual 126, 3) := by decide +kernel
theorem dX4_canBeGiven_12 : decode cX4_canBeGiven 12 = .ok (.aload_n 0, 1) := by decide +kernel
theorem dX4_canBeGiven_13 : decode cX4_canBeGiven 13 = .ok (.getfield 41, 3) := by decide +kernel
theorem dX4_canBeGiven_16 : decode cX4_canBeGiven 16 = .ok (.getfield 133, 3) := by decide +kernel
theorem dX4_canBeGiven_19 : decode cX4_canBeGiven 19 = .ok (.ifCond .ne 7, 3) := by decide +kernel
theorem dX4_canBeGiven_22 : decode cX4_canBeGiven 22 = .ok (.iconst 1, 1) := by decide +kernel
theorem dX4_canBeGiven_23 : decode cX4_canBeGiven 23 = .ok (.goto 4, 3) := by decide +kernel
theorem dX4_canBeGiven_26 : decode cX4_canBeGiven 26 = .ok (.iconst 0, 1) := by decide +kernel
theorem dX4_canBeGiven_27 : decode cX4_canBeGiven 27 = .ok (.ireturn, 1) := by decide +kernel
theorem dX4_sentencesTakenIfGiven_0 : decode cX4_sentencesTakenIfGiven 0 = .ok (.aload_n 0, 1) := by decide +kernel
theorem dX4_sentencesTakenIfGiven_1 : decode cX4_sentencesTakenIfGiven 1 = .ok (.invokevirtual 100, 3) := by decide +kernel
theorem dX4_sentencesTakenIfGiven_4 : decode cX4_sentencesTakenIfGiven 4 = .ok (.ifCond .ne 5, 3) := by decide +kernel
theorem dX4_sentencesTakenIfGiven_7 : decode cX4_sentencesTakenIfGiven 7 = .ok (.iconst 0, 1) := by decide +kernel
theorem dX4_sentencesTakenIfGiven_8 : decode cX4_sentencesTakenIfGiven 8 = .ok (.ireturn, 1) := by decide +kernel
theorem dX4_sentencesTakenIfGiven_9 : decode cX4_sentencesTakenIfGiven 9 = .ok (.aload_n 0, 1) := by decide +kernel
theorem dX4_sentencesTakenIfGiven_10 : decode cX4_sentencesTakenIfGiven 10 = .ok (.iload_n 1, 1) := by decide +kernel
theorem dX4_sentencesTakenIfGiven_11 : decode cX4_sentencesTakenIfGiven 11 = .ok (.invokevirtual 104, 3) := by decide +kernel
theorem dX4_sentencesTakenIfGiven_14 : decode cX4_sentencesTakenIfGiven 14 = .ok (.aload_n 0, 1) := by decide +kernel
theorem dX4_sentencesTakenIfGiven_15 : decode cX4_sentencesTakenIfGiven 15 = .ok (.iload_n 1, 1) := by decide +kernel
theorem dX4_sentencesTakenIfGiven_16 : decode cX4_sentencesTakenIfGiven 16 = .ok (.invokevirtual 108, 3) := by decide +kernel
theorem dX4_sentencesTakenIfGiven_19 : decode cX4_sentencesTakenIfGiven 19 = .ok (.ireturn, 1) := by decide +kernel
theorem dX4_lookThroughEyesOf_0 : decode cX4_lookThroughEyesOf 0 = .ok (.aload_n 0, 1) := by decide +kernel
theorem dX4_lookThroughEyesOf_1 : decode cX4_lookThroughEyesOf 1 = .ok (.getfield 37, 3) := by decide +kernel
theorem dX4_lookThroughEyesOf_4 : decode cX4_lookThroughEyesOf 4 = .ok (.aload_n 0, 1) := by decide +kernel
theorem dX4_lookThroughEyesOf_5 : decode cX4_lookThroughEyesOf 5 = .ok (.getfield 10, 3) := by decide +kernel
theorem dX4_lookThroughEyesOf_8 : decode cX4_lookThroughEyesOf 8 = .ok (.aload_n 0, 1) := by decide +kernel
theorem dX4_lookThroughEyesOf_9 : decode cX4_lookThroughEyesOf 9 = .ok (.getfield 10, 3) := by decide +kernel
theorem dX4_lookThroughEyesOf_12 : decode cX4_lookThroughEyesOf 12 = .ok (.getfield 64, 3) := by decide +kernel
theorem dX4_lookThroughEyesOf_15 : decode cX4_lookThroughEyesOf 15 = .ok (.iload_n 1, 1) := by decide +kernel
theorem dX4_lookThroughEyesOf_16 : decode cX4_lookThroughEyesOf 16 = .ok (.invokestatic 145, 3) := by decide +kernel
theorem dX4_lookThroughEyesOf_19 : decode cX4_lookThroughEyesOf 19 = .ok (.invokevirtual 126, 3) := by decide +kernel
theorem dX4_lookThroughEyesOf_22 : decode cX4_lookThroughEyesOf 22 = .ok (.return_, 1) := by decide +kernel
theorem dX4_sentencesSeenFor_0 : decode cX4_sentencesSeenFor 0 = .ok (.iconst 0, 1) := by decide +kernel
theorem dX4_sentencesSeenFor_1 : decode cX4_sentencesSeenFor 1 = .ok (.istore_n 2, 1) := by decide +kernel
theorem dX4_sentencesSeenFor_2 : decode cX4_sentencesSeenFor 2 = .ok (.iconst 0, 1) := by decide +kernel
theorem dX4_sentencesSeenFor_3 : decode cX4_sentencesSeenFor 3 = .ok (.istore_n 3, 1) := by decide +kernel
theorem dX4_sentencesSeenFor_4 : decode cX4_sentencesSeenFor 4 = .ok (.iload_n 3, 1) := by decide +kernel
theorem dX4_sentencesSeenFor_5 : decode cX4_sentencesSeenFor 5 = .ok (.aload_n 0, 1) := by decide +kernel
theorem dX4_sentencesSeenFor_6 : decode cX4_sentencesSeenFor 6 = .ok (.getfield 37, 3) := by decide +kernel
theorem dX4_sentencesSeenFor_9 : decode cX4_sentencesSeenFor 9 = .ok (.getfield 136, 3) := by decide +kernel
theorem dX4_sentencesSeenFor_12 : decode cX4_sentencesSeenFor 12 = .ok (.if_icmp .ge 25, 3) := by decide +kernel
theorem dX4_sentencesSeenFor_15 : decode cX4_sentencesSeenFor 15 = .ok (.aload_n 0, 1) := by decide +kernel
theorem dX4_sentencesSeenFor_16 : decode cX4_sentencesSeenFor 16 = .ok (.getfield 37, 3) := by decide +kernel
theorem dX4_sentencesSeenFor_19 : decode cX4_sentencesSeenFor 19 = .ok (.iload_n 3, 1) := by decide +kernel
theorem dX4_sentencesSeenFor_20 : decode cX4_sentencesSeenFor 20 = .ok (.iconst 0, 1) := by decide +kernel
theorem dX4_sentencesSeenFor_21 : decode cX4_sentencesSeenFor 21 = .ok (.invokevirtual 152, 3) := by decide +kernel
theorem dX4_sentencesSeenFor_24 : decode cX4_sentencesSeenFor 24 = .ok (.iload_n 1, 1) := by decide +kernel
theorem dX4_sentencesSeenFor_25 : decode cX4_sentencesSeenFor 25 = .ok (.if_icmp .eq 6, 3) := by decide +kernel
theorem dX4_sentencesSeenFor_28 : decode cX4_sentencesSeenFor 28 = .ok (.iinc 2 1, 3) := by decide +kernel
theorem dX4_sentencesSeenFor_31 : decode cX4_sentencesSeenFor 31 = .ok (.iinc 3 1, 3) := by decide +kernel
theorem dX4_sentencesSeenFor_34 : decode cX4_sentencesSeenFor 34 = .ok (.goto (-30), 3) := by decide +kernel
theorem dX4_sentencesSeenFor_37 : decode cX4_sentencesSeenFor 37 = .ok (.iload_n 2, 1) := by decide +kernel
theorem dX4_sentencesSeenFor_38 : decode cX4_sentencesSeenFor 38 = .ok (.ireturn, 1) := by decide +kernel
theorem dX4_favourBehindSeen_0 : decode cX4_favourBehindSeen 0 = .ok (.aload_n 0, 1) := by decide +kernel
theorem dX4_favourBehindSeen_1 : decode cX4_favourBehindSeen 1 = .ok (.getfield 10, 3) := by decide +kernel
theorem dX4_favourBehindSeen_4 : decode cX4_favourBehindSeen 4 = .ok (.getfield 111, 3) := by decide +kernel
theorem dX4_favourBehindSeen_7 : decode cX4_favourBehindSeen 7 = .ok (.iload_n 1, 1) := by decide +kernel
theorem dX4_favourBehindSeen_8 : decode cX4_favourBehindSeen 8 = .ok (.iload_n 2, 1) := by decide +kernel
theorem dX4_favourBehindSeen_9 : decode cX4_favourBehindSeen 9 = .ok (.invokestatic 114, 3) := by decide +kernel
theorem dX4_favourBehindSeen_12 : decode cX4_favourBehindSeen 12 = .ok (.invokestatic 145, 3) := by decide +kernel
theorem dX4_favourBehindSeen_15 : decode cX4_favourBehindSeen 15 = .ok (.istore_n 3, 1) := by decide +kernel
theorem dX4_favourBehindSeen_16 : decode cX4_favourBehindSeen 16 = .ok (.iload_n 1, 1) := by decide +kernel
theorem dX4_favourBehindSeen_17 : decode cX4_favourBehindSeen 17 = .ok (.iload_n 2, 1) := by decide +kernel
theorem dX4_favourBehindSeen_18 : decode cX4_favourBehindSeen 18 = .ok (.if_icmp .ne 5, 3) := by decide +kernel
theorem dX4_favourBehindSeen_21 : decode cX4_favourBehindSeen 21 = .ok (.iload_n 3, 1) := by decide +kernel
theorem dX4_favourBehindSeen_22 : decode cX4_favourBehindSeen 22 = .ok (.ireturn, 1) := by decide +kernel
theorem dX4_favourBehindSeen_23 : decode cX4_favourBehindSeen 23 = .ok (.iconst 0, 1) := by decide +kernel
theorem dX4_favourBehindSeen_24 : decode cX4_favourBehindSeen 24 = .ok (.istore 4, 2) := by decide +kernel
theorem dX4_favourBehindSeen_26 : decode cX4_favourBehindSeen 26 = .ok (.iload 4, 2) := by decide +kernel
theorem dX4_favourBehindSeen_28 : decode cX4_favourBehindSeen 28 = .ok (.aload_n 0, 1) := by decide +kernel
theorem dX4_favourBehindSeen_29 : decode cX4_favourBehindSeen 29 = .ok (.getfield 37, 3) := by decide +kernel
theorem dX4_favourBehindSeen_32 : decode cX4_favourBehindSeen 32 = .ok (.getfield 136, 3) := by decide +kernel
theorem dX4_favourBehindSeen_35 : decode cX4_favourBehindSeen 35 = .ok (.if_icmp .ge 43, 3) := by decide +kernel
theorem dX4_favourBehindSeen_38 : decode cX4_favourBehindSeen 38 = .ok (.aload_n 0, 1) := by decide +kernel
theorem dX4_favourBehindSeen_39 : decode cX4_favourBehindSeen 39 = .ok (.getfield 37, 3) := by decide +kernel
theorem dX4_favourBehindSeen_42 : decode cX4_favourBehindSeen 42 = .ok (.iload 4, 2) := by decide +kernel
theorem dX4_favourBehindSeen_44 : decode cX4_favourBehindSeen 44 = .ok (.iconst 0, 1) := by decide +kernel
theorem dX4_favourBehindSeen_45 : decode cX4_favourBehindSeen 45 = .ok (.invokevirtual 152, 3) := by decide +kernel
theorem dX4_favourBehindSeen_48 : decode cX4_favourBehindSeen 48 = .ok (.iload_n 2, 1) := by decide +kernel
theorem dX4_favourBehindSeen_49 : decode cX4_favourBehindSeen 49 = .ok (.if_icmp .ne 23, 3) := by decide +kernel
theorem dX4_favourBehindSeen_52 : decode cX4_favourBehindSeen 52 = .ok (.bipush (-99), 2) := by decide +kernel
theorem dX4_favourBehindSeen_54 : decode cX4_favourBehindSeen 54 = .ok (.bipush 99, 2) := by decide +kernel
theorem dX4_favourBehindSeen_56 : decode cX4_favourBehindSeen 56 = .ok (.iload_n 3, 1) := by decide +kernel
theorem dX4_favourBehindSeen_57 : decode cX4_favourBehindSeen 57 = .ok (.aload_n 0, 1) := by decide +kernel
theorem dX4_favourBehindSeen_58 : decode cX4_favourBehindSeen 58 = .ok (.iload_n 1, 1) := by decide +kernel
theorem dX4_favourBehindSeen_59 : decode cX4_favourBehindSeen 59 = .ok (.iload 4, 2) := by decide +kernel
theorem dX4_favourBehindSeen_61 : decode cX4_favourBehindSeen 61 = .ok (.invokevirtual 199, 3) := by decide +kernel
theorem dX4_favourBehindSeen_64 : decode cX4_favourBehindSeen 64 = .ok (.iadd, 1) := by decide +kernel
theorem dX4_favourBehindSeen_65 : decode cX4_favourBehindSeen 65 = .ok (.invokestatic 202, 3) := by decide +kernel
theorem dX4_favourBehindSeen_68 : decode cX4_favourBehindSeen 68 = .ok (.invokestatic 207, 3) := by decide +kernel
theorem dX4_favourBehindSeen_71 : decode cX4_favourBehindSeen 71 = .ok (.istore_n 3, 1) := by decide +kernel
theorem dX4_favourBehindSeen_72 : decode cX4_favourBehindSeen 72 = .ok (.iinc 4 1, 3) := by decide +kernel
theorem dX4_favourBehindSeen_75 : decode cX4_favourBehindSeen 75 = .ok (.goto (-49), 3) := by decide +kernel
theorem dX4_favourBehindSeen_78 : decode cX4_favourBehindSeen 78 = .ok (.iload_n 3, 1) := by decide +kernel
theorem dX4_favourBehindSeen_79 : decode cX4_favourBehindSeen 79 = .ok (.ireturn, 1) := by decide +kernel
theorem dX4_gain_0 : decode cX4_gain 0 = .ok (.aload_n 0, 1) := by decide +kernel
theorem dX4_gain_1 : decode cX4_gain 1 = .ok (.getfield 37, 3) := by decide +kernel
theorem dX4_gain_4 : decode cX4_gain 4 = .ok (.iload_n 2, 1) := by decide +kernel
theorem dX4_gain_5 : decode cX4_gain 5 = .ok (.invokevirtual 149, 3) := by decide +kernel
theorem dX4_gain_8 : decode cX4_gain 8 = .ok (.ifCond .eq 15, 3) := by decide +kernel
theorem dX4_gain_11 : decode cX4_gain 11 = .ok (.aload_n 0, 1) := by decide +kernel
theorem dX4_gain_12 : decode cX4_gain 12 = .ok (.getfield 10, 3) := by decide +kernel
theorem dX4_gain_15 : decode cX4_gain 15 = .ok (.getfield 52, 3) := by decide +kernel
theorem dX4_gain_18 : decode cX4_gain 18 = .ok (.iconst 1, 1) := by decide +kernel
theorem dX4_gain_19 : decode cX4_gain 19 = .ok (.iaload, 1) := by decide +kernel
theorem dX4_gain_20 : decode cX4_gain 20 = .ok (.goto 13, 3) := by decide +kernel
theorem dX4_gain_23 : decode cX4_gain 23 = .ok (.aload_n 0, 1) := by decide +kernel
theorem dX4_gain_24 : decode cX4_gain 24 = .ok (.getfield 10, 3) := by decide +kernel
theorem dX4_gain_27 : decode cX4_gain 27 = .ok (.getfield 52, 3) := by decide +kernel
theorem dX4_gain_30 : decode cX4_gain 30 = .ok (.iconst 2, 1) := by decide +kernel
theorem dX4_gain_31 : decode cX4_gain 31 = .ok (.iaload, 1) := by decide +kernel
theorem dX4_gain_32 : decode cX4_gain 32 = .ok (.ineg, 1) := by decide +kernel
theorem dX4_gain_33 : decode cX4_gain 33 = .ok (.istore_n 3, 1) := by decide +kernel
theorem dX4_gain_34 : decode cX4_gain 34 = .ok (.aload_n 0, 1) := by decide +kernel
theorem dX4_gain_35 : decode cX4_gain 35 = .ok (.getfield 37, 3) := by decide +kernel
theorem dX4_gain_38 : decode cX4_gain 38 = .ok (.iload_n 2, 1) := by decide +kernel
theorem dX4_gain_39 : decode cX4_gain 39 = .ok (.iconst 2, 1) := by decide +kernel
theorem dX4_gain_40 : decode cX4_gain 40 = .ok (.invokevirtual 152, 3) := by decide +kernel
theorem dX4_gain_43 : decode cX4_gain 43 = .ok (.iload_n 1, 1) := by decide +kernel
theorem dX4_gain_44 : decode cX4_gain 44 = .ok (.if_icmp .ne 9, 3) := by decide +kernel
theorem dX4_gain_47 : decode cX4_gain 47 = .ok (.iconst 2, 1) := by decide +kernel
theorem dX4_gain_48 : decode cX4_gain 48 = .ok (.iload_n 3, 1) := by decide +kernel
theorem dX4_gain_49 : decode cX4_gain 49 = .ok (.imul, 1) := by decide +kernel
theorem dX4_gain_50 : decode cX4_gain 50 = .ok (.goto 4, 3) := by decide +kernel
theorem dX4_gain_53 : decode cX4_gain 53 = .ok (.iload_n 3, 1) := by decide +kernel
theorem dX4_gain_54 : decode cX4_gain 54 = .ok (.ireturn, 1) := by decide +kernel
theorem dX4_courtiersMisled_0 : decode cX4_courtiersMisled 0 = .ok (.aload_n 0, 1) := by decide +kernel
theorem dX4_courtiersMisled_1 : decode cX4_courtiersMisled 1 = .ok (.getfield 41, 3) := by decide +kernel
theorem dX4_courtiersMisled_4 : decode cX4_courtiersMisled 4 = .ok (.aload_n 0, 1) := by decide +kernel
theorem dX4_courtiersMisled_5 : decode cX4_courtiersMisled 5 = .ok (.getfield 10, 3) := by decide +kernel
theorem dX4_courtiersMisled_8 : decode cX4_courtiersMisled 8 = .ok (.iconst 0, 1) := by decide +kernel
theorem dX4_courtiersMisled_9 : decode cX4_courtiersMisled 9 = .ok (.invokevirtual 126, 3) := by decide +kernel
theorem dX4_courtiersMisled_12 : decode cX4_courtiersMisled 12 = .ok (.iconst 0, 1) := by decide +kernel
theorem dX4_courtiersMisled_13 : decode cX4_courtiersMisled 13 = .ok (.istore_n 1, 1) := by decide +kernel
theorem dX4_courtiersMisled_14 : decode cX4_courtiersMisled 14 = .ok (.iconst 0, 1) := by decide +kernel
theorem dX4_courtiersMisled_15 : decode cX4_courtiersMisled 15 = .ok (.istore_n 2, 1) := by decide +kernel
theorem dX4_courtiersMisled_16 : decode cX4_courtiersMisled 16 = .ok (.iload_n 2, 1) := by decide +kernel
theorem dX4_courtiersMisled_17 : decode cX4_courtiersMisled 17 = .ok (.bipush 6, 2) := by decide +kernel
theorem dX4_courtiersMisled_19 : decode cX4_courtiersMisled 19 = .ok (.if_icmp .ge 31, 3) := by decide +kernel
theorem dX4_courtiersMisled_22 : decode cX4_courtiersMisled 22 = .ok (.aload_n 0, 1) := by decide +kernel
theorem dX4_courtiersMisled_23 : decode cX4_courtiersMisled 23 = .ok (.iload_n 2, 1) := by decide +kernel
theorem dX4_courtiersMisled_24 : decode cX4_courtiersMisled 24 = .ok (.invokevirtual 104, 3) := by decide +kernel
theorem dX4_courtiersMisled_27 : decode cX4_courtiersMisled 27 = .ok (.aload_n 0, 1) := by decide +kernel
theorem dX4_courtiersMisled_28 : decode cX4_courtiersMisled 28 = .ok (.getfield 37, 3) := by decide +kernel
theorem dX4_courtiersMisled_31 : decode cX4_courtiersMisled 31 = .ok (.aload_n 0, 1) := by decide +kernel
theorem dX4_courtiersMisled_32 : decode cX4_courtiersMisled 32 = .ok (.getfield 41, 3) := by decide +kernel
theorem dX4_courtiersMisled_35 : decode cX4_courtiersMisled 35 = .ok (.invokevirtual 210, 3) := by decide +kernel
theorem dX4_courtiersMisled_38 : decode cX4_courtiersMisled 38 = .ok (.ifCond .ne 6, 3) := by decide +kernel
theorem dX4_courtiersMisled_41 : decode cX4_courtiersMisled 41 = .ok (.iinc 1 1, 3) := by decide +kernel
theorem dX4_courtiersMisled_44 : decode cX4_courtiersMisled 44 = .ok (.iinc 2 1, 3) := by decide +kernel
theorem dX4_courtiersMisled_47 : decode cX4_courtiersMisled 47 = .ok (.goto (-31), 3) := by decide +kernel
theorem dX4_courtiersMisled_50 : decode cX4_courtiersMisled 50 = .ok (.iload_n 1, 1) := by decide +kernel
theorem dX4_courtiersMisled_51 : decode cX4_courtiersMisled 51 = .ok (.ireturn, 1) := by decide +kernel
end
section
theorem dX5_init_0 : decode cX5_init 0 = .ok (.aload_n 0, 1) := by decide +kernel
theorem dX5_init_1 : decode cX5_init 1 = .ok (.invokespecial 1, 3) := by decide +kernel
theorem dX5_init_4 : decode cX5_init 4 = .ok (.aload_n 0, 1) := by decide +kernel
theorem dX5_init_5 : decode cX5_init 5 = .ok (.bipush 120, 2) := by decide +kernel
theorem dX5_init_7 : decode cX5_init 7 = .ok (.newarray .int, 2) := by decide +kernel
theorem dX5_init_9 : decode cX5_init 9 = .ok (.putfield 7, 3) := by decide +kernel
theorem dX5_init_12 : decode cX5_init 12 = .ok (.aload_n 0, 1) := by decide +kernel
theorem dX5_init_13 : decode cX5_init 13 = .ok (.bipush 120, 2) := by decide +kernel
theorem dX5_init_15 : decode cX5_init 15 = .ok (.newarray .int, 2) := by decide +kernel
theorem dX5_init_17 : decode cX5_init 17 = .ok (.putfield 13, 3) := by decide +kernel
theorem dX5_init_20 : decode cX5_init 20 = .ok (.aload_n 0, 1) := by decide +kernel
theorem dX5_init_21 : decode cX5_init 21 = .ok (.sipush 720, 3) := by decide +kernel
theorem dX5_init_24 : decode cX5_init 24 = .ok (.newarray .int, 2) := by decide +kernel
theorem dX5_init_26 : decode cX5_init 26 = .ok (.putfield 16, 3) := by decide +kernel
theorem dX5_init_29 : decode cX5_init 29 = .ok (.aload_n 0, 1) := by decide +kernel
theorem dX5_init_30 : decode cX5_init 30 = .ok (.sipush 240, 3) := by decide +kernel
theorem dX5_init_33 : decode cX5_init 33 = .ok (.newarray .int, 2) := by decide +kernel
theorem dX5_init_35 : decode cX5_init 35 = .ok (.putfield 19, 3) := by decide +kernel
theorem dX5_init_38 : decode cX5_init 38 = .ok (.aload_n 0, 1) := by decide +kernel
theorem dX5_init_39 : decode cX5_init 39 = .ok (.iconst 2, 1) := by decide +kernel
theorem dX5_init_40 : decode cX5_init 40 = .ok (.newarray .int, 2) := by decide +kernel
theorem dX5_init_42 : decode cX5_init 42 = .ok (.putfield 22, 3) := by decide +kernel
theorem dX5_init_45 : decode cX5_init 45 = .ok (.aload_n 0, 1) := by decide +kernel
theorem dX5_init_46 : decode cX5_init 46 = .ok (.bipush 24, 2) := by decide +kernel
theorem dX5_init_48 : decode cX5_init 48 = .ok (.newarray .int, 2) := by decide +kernel
theorem dX5_init_50 : decode cX5_init 50 = .ok (.putfield 25, 3) := by decide +kernel
theorem dX5_init_53 : decode cX5_init 53 = .ok (.aload_n 0, 1) := by decide +kernel
theorem dX5_init_54 : decode cX5_init 54 = .ok (.bipush 24, 2) := by decide +kernel
theorem dX5_init_56 : decode cX5_init 56 = .ok (.newarray .int, 2) := by decide +kernel
theorem dX5_init_58 : decode cX5_init 58 = .ok (.putfield 28, 3) := by decide +kernel
theorem dX5_init_61 : decode cX5_init 61 = .ok (.aload_n 0, 1) := by decide +kernel
theorem dX5_init_62 : decode cX5_init 62 = .ok (.bipush 24, 2) := by decide +kernel
theorem dX5_init_64 : decode cX5_init 64 = .ok (.newarray .int, 2) := by decide +kernel
theorem dX5_init_66 : decode cX5_init 66 = .ok (.putfield 31, 3) := by decide +kernel
theorem dX5_init_69 : decode cX5_init 69 = .ok (.aload_n 0, 1) := by decide +kernel
theorem dX5_init_70 : decode cX5_init 70 = .ok (.bipush 60, 2) := by decide +kernel
theorem dX5_init_72 : decode cX5_init 72 = .ok (.newarray .int, 2) := by decide +kernel
theorem dX5_init_74 : decode cX5_init 74 = .ok (.putfield 34, 3) := by decide +kernel
theorem dX5_init_77 : decode cX5_init 77 = .ok (.aload_n 0, 1) := by decide +kernel
theorem dX5_init_78 : decode cX5_init 78 = .ok (.bipush 30, 2) := by decide +kernel
theorem dX5_init_80 : decode cX5_init 80 = .ok (.newarray .int, 2) := by decide +kernel
theorem dX5_init_82 : decode cX5_init 82 = .ok (.putfield 37, 3) := by decide +kernel
theorem dX5_init_85 : decode cX5_init 85 = .ok (.aload_n 0, 1) := by decide +kernel
theorem dX5_init_86 : decode cX5_init 86 = .ok (.bipush 30, 2) := by decide +kernel
theorem dX5_init_88 : decode cX5_init 88 = .ok (.newarray .int, 2) := by decide +kernel
theorem dX5_init_90 : decode cX5_init 90 = .ok (.putfield 40, 3) := by decide +kernel
theorem dX5_init_93 : decode cX5_init 93 = .ok (.aload_n 0, 1) := by decide +kernel
theorem dX5_init_94 : decode cX5_init 94 = .ok (.getfield 7, 3) := by decide +kernel
theorem dX5_init_97 : decode cX5_init 97 = .ok (.iconst 0, 1) := by decide +kernel
theorem dX5_init_98 : decode cX5_init 98 = .ok (.iconst 3, 1) := by decide +kernel
theorem dX5_init_99 : decode cX5_init 99 = .ok (.iastore, 1) := by decide +kernel
theorem dX5_init_100 : decode cX5_init 100 = .ok (.aload_n 0, 1) := by decide +kernel
theorem dX5_init_101 : decode cX5_init 101 = .ok (.getfield 7, 3) := by decide +kernel
theorem dX5_init_104 : decode cX5_init 104 = .ok (.iconst 1, 1) := by decide +kernel
theorem dX5_init_105 : decode cX5_init 105 = .ok (.iconst 2, 1) := by decide +kernel
theorem dX5_init_106 : decode cX5_init 106 = .ok (.iastore, 1) := by decide +kernel
theorem dX5_init_107 : decode cX5_init 107 = .ok (.aload_n 0, 1) := by decide +kernel
theorem dX5_init_108 : decode cX5_init 108 = .ok (.getfield 7, 3) := by decide +kernel
theorem dX5_init_111 : decode cX5_init 111 = .ok (.iconst 2, 1) := by decide +kernel
theorem dX5_init_112 : decode cX5_init 112 = .ok (.iconst 3, 1) := by decide +kernel
theorem dX5_init_113 : decode cX5_init 113 = .ok (.iastore, 1) := by decide +kernel
theorem dX5_init_114 : decode cX5_init 114 = .ok (.return_, 1) := by decide +kernel
theorem dX5_in_0 : decode cX5_in 0 = .ok (.lload_n 0, 1) := by decide +kernel
theorem dX5_in_1 : decode cX5_in 1 = .ok (.lload_n 2, 1) := by decide +kernel
theorem dX5_in_2 : decode cX5_in 2 = .ok (.lcmp, 1) := by decide +kernel
theorem dX5_in_3 : decode cX5_in 3 = .ok (.ifCond .lt 14, 3) := by decide +kernel
theorem dX5_in_6 : decode cX5_in 6 = .ok (.lload_n 0, 1) := by decide +kernel
theorem dX5_in_7 : decode cX5_in 7 = .ok (.lload 4, 2) := by decide +kernel
theorem dX5_in_9 : decode cX5_in 9 = .ok (.lcmp, 1) := by decide +kernel
theorem dX5_in_10 : decode cX5_in 10 = .ok (.ifCond .gt 7, 3) := by decide +kernel
theorem dX5_in_13 : decode cX5_in 13 = .ok (.iconst 1, 1) := by decide +kernel
theorem dX5_in_14 : decode cX5_in 14 = .ok (.goto 4, 3) := by decide +kernel
theorem dX5_in_17 : decode cX5_in 17 = .ok (.iconst 0, 1) := by decide +kernel
theorem dX5_in_18 : decode cX5_in 18 = .ok (.ireturn, 1) := by decide +kernel
theorem dX5_changes_0 : decode cX5_changes 0 = .ok (.aload_n 0, 1) := by decide +kernel
theorem dX5_changes_1 : decode cX5_changes 1 = .ok (.getfield 43, 3) := by decide +kernel
theorem dX5_changes_4 : decode cX5_changes 4 = .ok (.bipush 6, 2) := by decide +kernel
theorem dX5_changes_6 : decode cX5_changes 6 = .ok (.if_icmp .ne 43, 3) := by decide +kernel
theorem dX5_changes_9 : decode cX5_changes 9 = .ok (.iconst 0, 1) := by decide +kernel
theorem dX5_changes_10 : decode cX5_changes 10 = .ok (.istore_n 1, 1) := by decide +kernel
theorem dX5_changes_11 : decode cX5_changes 11 = .ok (.iload_n 1, 1) := by decide +kernel
theorem dX5_changes_12 : decode cX5_changes 12 = .ok (.sipush 600, 3) := by decide +kernel
theorem dX5_changes_15 : decode cX5_changes 15 = .ok (.if_icmp .ge 24, 3) := by decide +kernel
theorem dX5_changes_18 : decode cX5_changes 18 = .ok (.aload_n 0, 1) := by decide +kernel
theorem dX5_changes_19 : decode cX5_changes 19 = .ok (.getfield 16, 3) := by decide +kernel
theorem dX5_changes_22 : decode cX5_changes 22 = .ok (.iload_n 1, 1) := by decide +kernel
theorem dX5_changes_23 : decode cX5_changes 23 = .ok (.aload_n 0, 1) := by decide +kernel
theorem dX5_changes_24 : decode cX5_changes 24 = .ok (.getfield 16, 3) := by decide +kernel
theorem dX5_changes_27 : decode cX5_changes 27 = .ok (.iload_n 1, 1) := by decide +kernel
theorem dX5_changes_28 : decode cX5_changes 28 = .ok (.bipush 120, 2) := by decide +kernel
theorem dX5_changes_30 : decode cX5_changes 30 = .ok (.iadd, 1) := by decide +kernel
theorem dX5_changes_31 : decode cX5_changes 31 = .ok (.iaload, 1) := by decide +kernel
theorem dX5_changes_32 : decode cX5_changes 32 = .ok (.iastore, 1) := by decide +kernel
theorem dX5_changes_33 : decode cX5_changes 33 = .ok (.iinc 1 1, 3) := by decide +kernel
theorem dX5_changes_36 : decode cX5_changes 36 = .ok (.goto (-25), 3) := by decide +kernel
theorem dX5_changes_39 : decode cX5_changes 39 = .ok (.aload_n 0, 1) := by decide +kernel
theorem dX5_changes_40 : decode cX5_changes 40 = .ok (.dup, 1) := by decide +kernel
theorem dX5_changes_41 : decode cX5_changes 41 = .ok (.getfield 43, 3) := by decide +kernel
theorem dX5_changes_44 : decode cX5_changes 44 = .ok (.iconst 1, 1) := by decide +kernel
theorem dX5_changes_45 : decode cX5_changes 45 = .ok (.isub, 1) := by decide +kernel
theorem dX5_changes_46 : decode cX5_changes 46 = .ok (.putfield 43, 3) := by decide +kernel
theorem dX5_changes_49 : decode cX5_changes 49 = .ok (.iconst 0, 1) := by decide +kernel
theorem dX5_changes_50 : decode cX5_changes 50 = .ok (.istore_n 1, 1) := by decide +kernel
theorem dX5_changes_51 : decode cX5_changes 51 = .ok (.iload_n 1, 1) := by decide +kernel
theorem dX5_changes_52 : decode cX5_changes 52 = .ok (.bipush 120, 2) := by decide +kernel
theorem dX5_changes_54 : decode cX5_changes 54 = .ok (.if_icmp .ge 29, 3) := by decide +kernel
theorem dX5_changes_57 : decode cX5_changes 57 = .ok (.aload_n 0, 1) := by decide +kernel
theorem dX5_changes_58 : decode cX5_changes 58 = .ok (.getfield 16, 3) := by decide +kernel
theorem dX5_changes_61 : decode cX5_changes 61 = .ok (.bipush 120, 2) := by decide +kernel
theorem dX5_changes_63 : decode cX5_changes 63 = .ok (.aload_n 0, 1) := by decide +kernel
theorem dX5_changes_64 : decode cX5_changes 64 = .ok (.getfield 43, 3) := by decide +kernel
theorem dX5_changes_67 : decode cX5_changes 67 = .ok (.imul, 1) := by decide +kernel
theorem dX5_changes_68 : decode cX5_changes 68 = .ok (.iload_n 1, 1) := by decide +kernel
theorem dX5_changes_69 : decode cX5_changes 69 = .ok (.iadd, 1) := by decide +kernel
theorem dX5_changes_70 : decode cX5_changes 70 = .ok (.aload_n 0, 1) := by decide +kernel
theorem dX5_changes_71 : decode cX5_changes 71 = .ok (.getfield 7, 3) := by decide +kernel
theorem dX5_changes_74 : decode cX5_changes 74 = .ok (.iload_n 1, 1) := by decide +kernel
theorem dX5_changes_75 : decode cX5_changes 75 = .ok (.iaload, 1) := by decide +kernel
theorem dX5_changes_76 : decode cX5_changes 76 = .ok (.iastore, 1) := by decide +kernel
theorem dX5_changes_77 : decode cX5_changes 77 = .ok (.iinc 1 1, 3) := by decide +kernel
theorem dX5_changes_80 : decode cX5_changes 80 = .ok (.goto (-29), 3) := by decide +kernel
theorem dX5_changes_83 : decode cX5_changes 83 = .ok (.aload_n 0, 1) := by decide +kernel
theorem dX5_changes_84 : decode cX5_changes 84 = .ok (.dup, 1) := by decide +kernel
theorem dX5_changes_85 : decode cX5_changes 85 = .ok (.getfield 43, 3) := by decide +kernel
theorem dX5_changes_88 : decode cX5_changes 88 = .ok (.iconst 1, 1) := by decide +kernel
theorem dX5_changes_89 : decode cX5_changes 89 = .ok (.iadd, 1) := by decide +kernel
theorem dX5_changes_90 : decode cX5_changes 90 = .ok (.putfield 43, 3) := by decide +kernel
theorem dX5_changes_93 : decode cX5_changes 93 = .ok (.return_, 1) := by decide +kernel
theorem dX5_keeps_0 : decode cX5_keeps 0 = .ok (.iconst 0, 1) := by decide +kernel
theorem dX5_keeps_1 : decode cX5_keeps 1 = .ok (.istore_n 1, 1) := by decide +kernel
theorem dX5_keeps_2 : decode cX5_keeps 2 = .ok (.iload_n 1, 1) := by decide +kernel
theorem dX5_keeps_3 : decode cX5_keeps 3 = .ok (.bipush 120, 2) := by decide +kernel
theorem dX5_keeps_5 : decode cX5_keeps 5 = .ok (.if_icmp .ge 21, 3) := by decide +kernel
theorem dX5_keeps_8 : decode cX5_keeps 8 = .ok (.aload_n 0, 1) := by decide +kernel
theorem dX5_keeps_9 : decode cX5_keeps 9 = .ok (.getfield 13, 3) := by decide +kernel
theorem dX5_keeps_12 : decode cX5_keeps 12 = .ok (.iload_n 1, 1) := by decide +kernel
theorem dX5_keeps_13 : decode cX5_keeps 13 = .ok (.aload_n 0, 1) := by decide +kernel
theorem dX5_keeps_14 : decode cX5_keeps 14 = .ok (.getfield 7, 3) := by decide +kernel
theorem dX5_keeps_17 : decode cX5_keeps 17 = .ok (.iload_n 1, 1) := by decide +kernel
theorem dX5_keeps_18 : decode cX5_keeps 18 = .ok (.iaload, 1) := by decide +kernel
theorem dX5_keeps_19 : decode cX5_keeps 19 = .ok (.iastore, 1) := by decide +kernel
theorem dX5_keeps_20 : decode cX5_keeps 20 = .ok (.iinc 1 1, 3) := by decide +kernel
theorem dX5_keeps_23 : decode cX5_keeps 23 = .ok (.goto (-21), 3) := by decide +kernel
theorem dX5_keeps_26 : decode cX5_keeps 26 = .ok (.return_, 1) := by decide +kernel
theorem dX5_comesBack_0 : decode cX5_comesBack 0 = .ok (.iconst 0, 1) := by decide +kernel
theorem dX5_comesBack_1 : decode cX5_comesBack 1 = .ok (.istore_n 1, 1) := by decide +kernel
theorem dX5_comesBack_2 : decode cX5_comesBack 2 = .ok (.iload_n 1, 1) := by decide +kernel
theorem dX5_comesBack_3 : decode cX5_comesBack 3 = .ok (.bipush 120, 2) := by decide +kernel
theorem dX5_comesBack_5 : decode cX5_comesBack 5 = .ok (.if_icmp .ge 21, 3) := by decide +kernel
theorem dX5_comesBack_8 : decode cX5_comesBack 8 = .ok (.aload_n 0, 1) := by decide +kernel
theorem dX5_comesBack_9 : decode cX5_comesBack 9 = .ok (.getfield 7, 3) := by decide +kernel
theorem dX5_comesBack_12 : decode cX5_comesBack 12 = .ok (.iload_n 1, 1) := by decide +kernel
theorem dX5_comesBack_13 : decode cX5_comesBack 13 = .ok (.aload_n 0, 1) := by decide +kernel
theorem dX5_comesBack_14 : decode cX5_comesBack 14 = .ok (.getfield 13, 3) := by decide +kernel
theorem dX5_comesBack_17 : decode cX5_comesBack 17 = .ok (.iload_n 1, 1) := by decide +kernel
theorem dX5_comesBack_18 : decode cX5_comesBack 18 = .ok (.iaload, 1) := by decide +kernel
theorem dX5_comesBack_19 : decode cX5_comesBack 19 = .ok (.iastore, 1) := by decide +kernel
theorem dX5_comesBack_20 : decode cX5_comesBack 20 = .ok (.iinc 1 1, 3) := by decide +kernel
theorem dX5_comesBack_23 : decode cX5_comesBack 23 = .ok (.goto (-21), 3) := by decide +kernel
theorem dX5_comesBack_26 : decode cX5_comesBack 26 = .ok (.return_, 1) := by decide +kernel
theorem dX5_areEyes_0 : decode cX5_areEyes 0 = .ok (.iload_n 0, 1) := by decide +kernel
theorem dX5_areEyes_1 : decode cX5_areEyes 1 = .ok (.i2l, 1) := by decide +kernel
theorem dX5_areEyes_2 : decode cX5_areEyes 2 = .ok (.lconst 0, 1) := by decide +kernel
theorem dX5_areEyes_3 : decode cX5_areEyes 3 = .ok (.ldc2_w 47, 3) := by decide +kernel
theorem dX5_areEyes_6 : decode cX5_areEyes 6 = .ok (.invokestatic 49, 3) := by decide +kernel
theorem dX5_areEyes_9 : decode cX5_areEyes 9 = .ok (.ireturn, 1) := by decide +kernel
theorem dX5_isCourtier_0 : decode cX5_isCourtier 0 = .ok (.iload_n 0, 1) := by decide +kernel
theorem dX5_isCourtier_1 : decode cX5_isCourtier 1 = .ok (.i2l, 1) := by decide +kernel
theorem dX5_isCourtier_2 : decode cX5_isCourtier 2 = .ok (.lconst 0, 1) := by decide +kernel
theorem dX5_isCourtier_3 : decode cX5_isCourtier 3 = .ok (.ldc2_w 53, 3) := by decide +kernel
theorem dX5_isCourtier_6 : decode cX5_isCourtier 6 = .ok (.invokestatic 49, 3) := by decide +kernel
theorem dX5_isCourtier_9 : decode cX5_isCourtier 9 = .ok (.ireturn, 1) := by decide +kernel
theorem dX5_signSeen_0 : decode cX5_signSeen 0 = .ok (.aload_n 0, 1) := by decide +kernel
theorem dX5_signSeen_1 : decode cX5_signSeen 1 = .ok (.getfield 7, 3) := by decide +kernel
theorem dX5_signSeen_4 : decode cX5_signSeen 4 = .ok (.bipush 48, 2) := by decide +kernel
theorem dX5_signSeen_6 : decode cX5_signSeen 6 = .ok (.iload_n 1, 1) := by decide +kernel
theorem dX5_signSeen_7 : decode cX5_signSeen 7 = .ok (.iadd, 1) := by decide +kernel
theorem dX5_signSeen_8 : decode cX5_signSeen 8 = .ok (.iaload, 1) := by decide +kernel
theorem dX5_signSeen_9 : decode cX5_signSeen 9 = .ok (.istore_n 3, 1) := by decide +kernel
theorem dX5_signSeen_10 : decode cX5_signSeen 10 = .ok (.iload_n 2, 1) := by decide +kernel
theorem dX5_signSeen_11 : decode cX5_signSeen 11 = .ok (.iconst 1, 1) := by decide +kernel
theorem dX5_signSeen_12 : decode cX5_signSeen 12 = .ok (.if_icmp .ne 14, 3) := by decide +kernel
theorem dX5_signSeen_15 : decode cX5_signSeen 15 = .ok (.iload_n 3, 1) := by decide +kernel
theorem dX5_signSeen_16 : decode cX5_signSeen 16 = .ok (.iconst 3, 1) := by decide +kernel
theorem dX5_signSeen_17 : decode cX5_signSeen 17 = .ok (.if_icmp .le 9, 3) := by decide +kernel
theorem dX5_signSeen_20 : decode cX5_signSeen 20 = .ok (.iload_n 3, 1) := by decide +kernel
theorem dX5_signSeen_21 : decode cX5_signSeen 21 = .ok (.iconst 2, 1) := by decide +kernel
theorem dX5_signSeen_22 : decode cX5_signSeen 22 = .ok (.isub, 1) := by decide +kernel
theorem dX5_signSeen_23 : decode cX5_signSeen 23 = .ok (.goto 4, 3) := by decide +kernel
theorem dX5_signSeen_26 : decode cX5_signSeen 26 = .ok (.iload_n 3, 1) := by decide +kernel
theorem dX5_signSeen_27 : decode cX5_signSeen 27 = .ok (.ireturn, 1) := by decide +kernel
theorem dX5_endsSeen_0 : decode cX5_endsSeen 0 = .ok (.aload_n 0, 1) := by decide +kernel
theorem dX5_endsSeen_1 : decode cX5_endsSeen 1 = .ok (.getfield 7, 3) := by decide +kernel
theorem dX5_endsSeen_4 : decode cX5_endsSeen 4 = .ok (.bipush 72, 2) := by decide +kernel
theorem dX5_endsSeen_6 : decode cX5_endsSeen 6 = .ok (.iload_n 1, 1) := by decide +kernel
theorem dX5_endsSeen_7 : decode cX5_endsSeen 7 = .ok (.iadd, 1) := by decide +kernel
theorem dX5_endsSeen_8 : decode cX5_endsSeen 8 = .ok (.iaload, 1) := by decide +kernel
theorem dX5_endsSeen_9 : decode cX5_endsSeen 9 = .ok (.istore_n 3, 1) := by decide +kernel
theorem dX5_endsSeen_10 : decode cX5_endsSeen 10 = .ok (.iload_n 1, 1) := by decide +kernel
theorem dX5_endsSeen_11 : decode cX5_endsSeen 11 = .ok (.aload_n 0, 1) := by decide +kernel
theorem dX5_endsSeen_12 : decode cX5_endsSeen 12 = .ok (.getfield 7, 3) := by decide +kernel
theorem dX5_endsSeen_15 : decode cX5_endsSeen 15 = .ok (.iconst 3, 1) := by decide +kernel
theorem dX5_endsSeen_16 : decode cX5_endsSeen 16 = .ok (.iaload, 1) := by decide +kernel
theorem dX5_endsSeen_17 : decode cX5_endsSeen 17 = .ok (.iconst 1, 1) := by decide +kernel
theorem dX5_endsSeen_18 : decode cX5_endsSeen 18 = .ok (.isub, 1) := by decide +kernel
theorem dX5_endsSeen_19 : decode cX5_endsSeen 19 = .ok (.if_icmp .eq 22, 3) := by decide +kernel
theorem dX5_endsSeen_22 : decode cX5_endsSeen 22 = .ok (.iload_n 3, 1) := by decide +kernel
theorem dX5_endsSeen_23 : decode cX5_endsSeen 23 = .ok (.aload_n 0, 1) := by decide +kernel
theorem dX5_endsSeen_24 : decode cX5_endsSeen 24 = .ok (.getfield 7, 3) := by decide +kernel
theorem dX5_endsSeen_27 : decode cX5_endsSeen 27 = .ok (.iconst 0, 1) := by decide +kernel
theorem dX5_endsSeen_28 : decode cX5_endsSeen 28 = .ok (.iaload, 1) := by decide +kernel
theorem dX5_endsSeen_29 : decode cX5_endsSeen 29 = .ok (.if_icmp .ge 12, 3) := by decide +kernel
theorem dX5_endsSeen_32 : decode cX5_endsSeen 32 = .ok (.iload_n 2, 1) := by decide +kernel
theorem dX5_endsSeen_33 : decode cX5_endsSeen 33 = .ok (.iconst 2, 1) := by decide +kernel
theorem dX5_endsSeen_34 : decode cX5_endsSeen 34 = .ok (.if_icmp .ne 11, 3) := by decide +kernel
theorem dX5_endsSeen_37 : decode cX5_endsSeen 37 = .ok (.iload_n 3, 1) := by decide +kernel
theorem dX5_endsSeen_38 : decode cX5_endsSeen 38 = .ok (.ifCond .le 7, 3) := by decide +kernel
theorem dX5_endsSeen_41 : decode cX5_endsSeen 41 = .ok (.iconst 1, 1) := by decide +kernel
theorem dX5_endsSeen_42 : decode cX5_endsSeen 42 = .ok (.goto 4, 3) := by decide +kernel
theorem dX5_endsSeen_45 : decode cX5_endsSeen 45 = .ok (.iconst 0, 1) := by decide +kernel
theorem dX5_endsSeen_46 : decode cX5_endsSeen 46 = .ok (.ireturn, 1) := by decide +kernel
theorem dX5_isFlourish_0 : decode cX5_isFlourish 0 = .ok (.iload_n 0, 1) := by decide +kernel
theorem dX5_isFlourish_1 : decode cX5_isFlourish 1 = .ok (.bipush 42, 2) := by decide +kernel
theorem dX5_isFlourish_3 : decode cX5_isFlourish 3 = .ok (.if_icmp .lt 7, 3) := by decide +kernel
theorem dX5_isFlourish_6 : decode cX5_isFlourish 6 = .ok (.iconst 1, 1) := by decide +kernel
theorem dX5_isFlourish_7 : decode cX5_isFlourish 7 = .ok (.goto 4, 3) := by decide +kernel
theorem dX5_isFlourish_10 : decode cX5_isFlourish 10 = .ok (.iconst 0, 1) := by decide +kernel
theorem dX5_isFlourish_11 : decode cX5_isFlourish 11 = .ok (.ireturn, 1) := by decide +kernel
theorem dX5_isDeed_0 : decode cX5_isDeed 0 = .ok (.iload_n 0, 1) := by decide +kernel
theorem dX5_isDeed_1 : decode cX5_isDeed 1 = .ok (.i2l, 1) := by decide +kernel
theorem dX5_isDeed_2 : decode cX5_isDeed 2 = .ok (.ldc2_w 55, 3) := by decide +kernel
theorem dX5_isDeed_5 : decode cX5_isDeed 5 = .ok (.ldc2_w 57, 3) := by decide +kernel
theorem dX5_isDeed_8 : decode cX5_isDeed 8 = .ok (.invokestatic 49, 3) := by decide +kernel
theorem dX5_isDeed_11 : decode cX5_isDeed 11 = .ok (.ireturn, 1) := by decide +kernel
theorem dX5_parts_0 : decode cX5_parts 0 = .ok (.aload_n 0, 1) := by decide +kernel
theorem dX5_parts_1 : decode cX5_parts 1 = .ok (.iconst 0, 1) := by decide +kernel
theorem dX5_parts_2 : decode cX5_parts 2 = .ok (.putfield 59, 3) := by decide +kernel
theorem dX5_parts_5 : decode cX5_parts 5 = .ok (.iconst 0, 1) := by decide +kernel
theorem dX5_parts_6 : decode cX5_parts 6 = .ok (.istore_n 2, 1) := by decide +kernel
theorem dX5_parts_7 : decode cX5_parts 7 = .ok (.iconst 0, 1) := by decide +kernel
theorem dX5_parts_8 : decode cX5_parts 8 = .ok (.istore_n 3, 1) := by decide +kernel
theorem dX5_parts_9 : decode cX5_parts 9 = .ok (.iconst 0, 1) := by decide +kernel
theorem dX5_parts_10 : decode cX5_parts 10 = .ok (.istore 4, 2) := by decide +kernel
theorem dX5_parts_12 : decode cX5_parts 12 = .ok (.iload 4, 2) := by decide +kernel
theorem dX5_parts_14 : decode cX5_parts 14 = .ok (.aload_n 0, 1) := by decide +kernel
theorem dX5_parts_15 : decode cX5_parts 15 = .ok (.getfield 7, 3) := by decide +kernel
theorem dX5_parts_18 : decode cX5_parts 18 = .ok (.iconst 3, 1) := by decide +kernel
theorem dX5_parts_19 : decode cX5_parts 19 = .ok (.iaload, 1) := by decide +kernel
theorem dX5_parts_20 : decode cX5_parts 20 = .ok (.if_icmp .ge 102, 3) := by decide +kernel
theorem dX5_parts_23 : decode cX5_parts 23 = .ok (.iinc 2 1, 3) := by decide +kernel
theorem dX5_parts_26 : decode cX5_parts 26 = .ok (.iload_n 2, 1) := by decide +kernel
theorem dX5_parts_27 : decode cX5_parts 27 = .ok (.iconst 3, 1) := by decide +kernel
theorem dX5_parts_28 : decode cX5_parts 28 = .ok (.if_icmp .le 7, 3) := by decide +kernel
theorem dX5_parts_31 : decode cX5_parts 31 = .ok (.iconst 0, 1) := by decide +kernel
theorem dX5_parts_32 : decode cX5_parts 32 = .ok (.goto 15, 3) := by decide +kernel
theorem dX5_parts_35 : decode cX5_parts 35 = .ok (.bipush 6, 2) := by decide +kernel
theorem dX5_parts_37 : decode cX5_parts 37 = .ok (.iload_n 3, 1) := by decide +kernel
theorem dX5_parts_38 : decode cX5_parts 38 = .ok (.imul, 1) := by decide +kernel
theorem dX5_parts_39 : decode cX5_parts 39 = .ok (.aload_n 0, 1) := by decide +kernel
theorem dX5_parts_40 : decode cX5_parts 40 = .ok (.iload 4, 2) := by decide +kernel
theorem dX5_parts_42 : decode cX5_parts 42 = .ok (.iload_n 1, 1) := by decide +kernel
theorem dX5_parts_43 : decode cX5_parts 43 = .ok (.invokevirtual 62, 3) := by decide +kernel
theorem dX5_parts_46 : decode cX5_parts 46 = .ok (.iadd, 1) := by decide +kernel
theorem dX5_parts_47 : decode cX5_parts 47 = .ok (.istore_n 3, 1) := by decide +kernel
theorem dX5_parts_48 : decode cX5_parts 48 = .ok (.aload_n 0, 1) := by decide +kernel
theorem dX5_parts_49 : decode cX5_parts 49 = .ok (.iload 4, 2) := by decide +kernel
theorem dX5_parts_51 : decode cX5_parts 51 = .ok (.iload_n 1, 1) := by decide +kernel
theorem dX5_parts_52 : decode cX5_parts 52 = .ok (.invokevirtual 66, 3) := by decide +kernel
theorem dX5_parts_55 : decode cX5_parts 55 = .ok (.ifCond .eq 61, 3) := by decide +kernel
theorem dX5_parts_58 : decode cX5_parts 58 = .ok (.aload_n 0, 1) := by decide +kernel
theorem dX5_parts_59 : decode cX5_parts 59 = .ok (.getfield 25, 3) := by decide +kernel
theorem dX5_parts_62 : decode cX5_parts 62 = .ok (.aload_n 0, 1) := by decide +kernel
theorem dX5_parts_63 : decode cX5_parts 63 = .ok (.getfield 59, 3) := by decide +kernel
theorem dX5_parts_66 : decode cX5_parts 66 = .ok (.iload_n 2, 1) := by decide +kernel
theorem dX5_parts_67 : decode cX5_parts 67 = .ok (.iconst 1, 1) := by decide +kernel
theorem dX5_parts_68 : decode cX5_parts 68 = .ok (.if_icmp .ne 7, 3) := by decide +kernel
theorem dX5_parts_71 : decode cX5_parts 71 = .ok (.iload_n 3, 1) := by decide +kernel
theorem dX5_parts_72 : decode cX5_parts 72 = .ok (.goto 29, 3) := by decide +kernel
theorem dX5_parts_75 : decode cX5_parts 75 = .ok (.iload_n 2, 1) := by decide +kernel
theorem dX5_parts_76 : decode cX5_parts 76 = .ok (.iconst 2, 1) := by decide +kernel
theorem dX5_parts_77 : decode cX5_parts 77 = .ok (.if_icmp .ne 10, 3) := by decide +kernel
theorem dX5_parts_80 : decode cX5_parts 80 = .ok (.bipush 6, 2) := by decide +kernel
theorem dX5_parts_82 : decode cX5_parts 82 = .ok (.iload_n 3, 1) := by decide +kernel
theorem dX5_parts_83 : decode cX5_parts 83 = .ok (.iadd, 1) := by decide +kernel
theorem dX5_parts_84 : decode cX5_parts 84 = .ok (.goto 17, 3) := by decide +kernel
theorem dX5_parts_87 : decode cX5_parts 87 = .ok (.iload_n 2, 1) := by decide +kernel
theorem dX5_parts_88 : decode cX5_parts 88 = .ok (.iconst 3, 1) := by decide +kernel
theorem dX5_parts_89 : decode cX5_parts 89 = .ok (.if_icmp .ne 10, 3) := by decide +kernel
theorem dX5_parts_92 : decode cX5_parts 92 = .ok (.bipush 42, 2) := by decide +kernel
theorem dX5_parts_94 : decode cX5_parts 94 = .ok (.iload_n 3, 1) := by decide +kernel
theorem dX5_parts_95 : decode cX5_parts 95 = .ok (.iadd, 1) := by decide +kernel
theorem dX5_parts_96 : decode cX5_parts 96 = .ok (.goto 5, 3) := by decide +kernel
theorem dX5_parts_99 : decode cX5_parts 99 = .ok (.ldc 70, 2) := by decide +kernel
theorem dX5_parts_101 : decode cX5_parts 101 = .ok (.iastore, 1) := by decide +kernel
theorem dX5_parts_102 : decode cX5_parts 102 = .ok (.aload_n 0, 1) := by decide +kernel
theorem dX5_parts_103 : decode cX5_parts 103 = .ok (.dup, 1) := by decide +kernel
theorem dX5_parts_104 : decode cX5_parts 104 = .ok (.getfield 59, 3) := by decide +kernel
theorem dX5_parts_107 : decode cX5_parts 107 = .ok (.iconst 1, 1) := by decide +kernel
theorem dX5_parts_108 : decode cX5_parts 108 = .ok (.iadd, 1) := by decide +kernel
theorem dX5_parts_109 : decode cX5_parts 109 = .ok (.putfield 59, 3) := by decide +kernel
theorem dX5_parts_112 : decode cX5_parts 112 = .ok (.iconst 0, 1) := by decide +kernel
theorem dX5_parts_113 : decode cX5_parts 113 = .ok (.istore_n 2, 1) := by decide +kernel
theorem dX5_parts_114 : decode cX5_parts 114 = .ok (.iconst 0, 1) := by decide +kernel
theorem dX5_parts_115 : decode cX5_parts 115 = .ok (.istore_n 3, 1) := by decide +kernel
theorem dX5_parts_116 : decode cX5_parts 116 = .ok (.iinc 4 1, 3) := by decide +kernel
theorem dX5_parts_119 : decode cX5_parts 119 = .ok (.goto (-107), 3) := by decide +kernel
theorem dX5_parts_122 : decode cX5_parts 122 = .ok (.aload_n 0, 1) := by decide +kernel
theorem dX5_parts_123 : decode cX5_parts 123 = .ok (.iconst 0, 1) := by decide +kernel
theorem dX5_parts_124 : decode cX5_parts 124 = .ok (.putfield 71, 3) := by decide +kernel
theorem dX5_parts_127 : decode cX5_parts 127 = .ok (.iconst 0, 1) := by decide +kernel
theorem dX5_parts_128 : decode cX5_parts 128 = .ok (.istore 4, 2) := by decide +kernel
theorem dX5_parts_130 : decode cX5_parts 130 = .ok (.iload 4, 2) := by decide +kernel
theorem dX5_parts_132 : decode cX5_parts 132 = .ok (.aload_n 0, 1) := by decide +kernel
theorem dX5_parts_133 : decode cX5_parts 133 = .ok (.getfield 59, 3) := by decide +kernel
theorem dX5_parts_136 : decode cX5_parts 136 = .ok (.if_icmp .ge 48, 3) := by decide +kernel
theorem dX5_parts_139 : decode cX5_parts 139 = .ok (.aload_n 0, 1) := by decide +kernel
theorem dX5_parts_140 : decode cX5_parts 140 = .ok (.getfield 25, 3) := by decide +kernel
theorem dX5_parts_143 : decode cX5_parts 143 = .ok (.iload 4, 2) := by decide +kernel
theorem dX5_parts_145 : decode cX5_parts 145 = .ok (.iaload, 1) := by decide +kernel
theorem dX5_parts_146 : decode cX5_parts 146 = .ok (.invokestatic 74, 3) := by decide +kernel
theorem dX5_parts_149 : decode cX5_parts 149 = .ok (.ifCond .ne 29, 3) := by decide +kernel
theorem dX5_parts_152 : decode cX5_parts 152 = .ok (.aload_n 0, 1) := by decide +kernel
theorem dX5_parts_153 : decode cX5_parts 153 = .ok (.getfield 28, 3) := by decide +kernel
theorem dX5_parts_156 : decode cX5_parts 156 = .ok (.aload_n 0, 1) := by decide +kernel
theorem dX5_parts_157 : decode cX5_parts 157 = .ok (.getfield 71, 3) := by decide +kernel
theorem dX5_parts_160 : decode cX5_parts 160 = .ok (.aload_n 0, 1) := by decide +kernel
theorem dX5_parts_161 : decode cX5_parts 161 = .ok (.getfield 25, 3) := by decide +kernel
theorem dX5_parts_164 : decode cX5_parts 164 = .ok (.iload 4, 2) := by decide +kernel
theorem dX5_parts_166 : decode cX5_parts 166 = .ok (.iaload, 1) := by decide +kernel
theorem dX5_parts_167 : decode cX5_parts 167 = .ok (.iastore, 1) := by decide +kernel
theorem dX5_parts_168 : decode cX5_parts 168 = .ok (.aload_n 0, 1) := by decide +kernel
theorem dX5_parts_169 : decode cX5_parts 169 = .ok (.dup, 1) := by decide +kernel
theorem dX5_parts_170 : decode cX5_parts 170 = .ok (.getfield 71, 3) := by decide +kernel
theorem dX5_parts_173 : decode cX5_parts 173 = .ok (.iconst 1, 1) := by decide +kernel
theorem dX5_parts_174 : decode cX5_parts 174 = .ok (.iadd, 1) := by decide +kernel
theorem dX5_parts_175 : decode cX5_parts 175 = .ok (.putfield 71, 3) := by decide +kernel
theorem dX5_parts_178 : decode cX5_parts 178 = .ok (.iinc 4 1, 3) := by decide +kernel
theorem dX5_parts_181 : decode cX5_parts 181 = .ok (.goto (-51), 3) := by decide +kernel
theorem dX5_parts_184 : decode cX5_parts 184 = .ok (.return_, 1) := by decide +kernel
theorem dX5_isTooLong_0 : decode cX5_isTooLong 0 = .ok (.iconst 0, 1) := by decide +kernel
theorem dX5_isTooLong_1 : decode cX5_isTooLong 1 = .ok (.istore_n 1, 1) := by decide +kernel
theorem dX5_isTooLong_2 : decode cX5_isTooLong 2 = .ok (.iconst 0, 1) := by decide +kernel
theorem dX5_isTooLong_3 : decode cX5_isTooLong 3 = .ok (.istore_n 2, 1) := by decide +kernel
theorem dX5_isTooLong_4 : decode cX5_isTooLong 4 = .ok (.iload_n 2, 1) := by decide +kernel
theorem dX5_isTooLong_5 : decode cX5_isTooLong 5 = .ok (.aload_n 0, 1) := by decide +kernel
theorem dX5_isTooLong_6 : decode cX5_isTooLong 6 = .ok (.getfield 59, 3) := by decide +kernel
theorem dX5_isTooLong_9 : decode cX5_isTooLong 9 = .ok (.if_icmp .ge 30, 3) := by decide +kernel
theorem dX5_isTooLong_12 : decode cX5_isTooLong 12 = .ok (.iload_n 1, 1) := by decide +kernel
theorem dX5_isTooLong_13 : decode cX5_isTooLong 13 = .ok (.ifCond .ne 14, 3) := by decide +kernel
theorem dX5_isTooLong_16 : decode cX5_isTooLong 16 = .ok (.aload_n 0, 1) := by decide +kernel
theorem dX5_isTooLong_17 : decode cX5_isTooLong 17 = .ok (.getfield 25, 3) := by decide +kernel
theorem dX5_isTooLong_20 : decode cX5_isTooLong 20 = .ok (.iload_n 2, 1) := by decide +kernel
theorem dX5_isTooLong_21 : decode cX5_isTooLong 21 = .ok (.iaload, 1) := by decide +kernel
theorem dX5_isTooLong_22 : decode cX5_isTooLong 22 = .ok (.ldc 70, 2) := by decide +kernel
theorem dX5_isTooLong_24 : decode cX5_isTooLong 24 = .ok (.if_icmp .ne 7, 3) := by decide +kernel
theorem dX5_isTooLong_27 : decode cX5_isTooLong 27 = .ok (.iconst 1, 1) := by decide +kernel
theorem dX5_isTooLong_28 : decode cX5_isTooLong 28 = .ok (.goto 4, 3) := by decide +kernel
theorem dX5_isTooLong_31 : decode cX5_isTooLong 31 = .ok (.iconst 0, 1) := by decide +kernel
theorem dX5_isTooLong_32 : decode cX5_isTooLong 32 = .ok (.istore_n 1, 1) := by decide +kernel
theorem dX5_isTooLong_33 : decode cX5_isTooLong 33 = .ok (.iinc 2 1, 3) := by decide +kernel
theorem dX5_isTooLong_36 : decode cX5_isTooLong 36 = .ok (.goto (-32), 3) := by decide +kernel
theorem dX5_isTooLong_39 : decode cX5_isTooLong 39 = .ok (.iload_n 1, 1) := by decide +kernel
theorem dX5_isTooLong_40 : decode cX5_isTooLong 40 = .ok (.ireturn, 1) := by decide +kernel
theorem dX5_isRightThree_0 : decode cX5_isRightThree 0 = .ok (.aload_n 0, 1) := by decide +kernel
theorem dX5_isRightThree_1 : decode cX5_isRightThree 1 = .ok (.getfield 28, 3) := by decide +kernel
theorem dX5_isRightThree_4 : decode cX5_isRightThree 4 = .ok (.iload_n 1, 1) := by decide +kernel
theorem dX5_isRightThree_5 : decode cX5_isRightThree 5 = .ok (.iaload, 1) := by decide +kernel
theorem dX5_isRightThree_6 : decode cX5_isRightThree 6 = .ok (.invokestatic 78, 3) := by decide +kernel
theorem dX5_isRightThree_9 : decode cX5_isRightThree 9 = .ok (.ifCond .eq 35, 3) := by decide +kernel
theorem dX5_isRightThree_12 : decode cX5_isRightThree 12 = .ok (.aload_n 0, 1) := by decide +kernel
theorem dX5_isRightThree_13 : decode cX5_isRightThree 13 = .ok (.getfield 28, 3) := by decide +kernel
theorem dX5_isRightThree_16 : decode cX5_isRightThree 16 = .ok (.iload_n 1, 1) := by decide +kernel
theorem dX5_isRightThree_17 : decode cX5_isRightThree 17 = .ok (.iconst 1, 1) := by decide +kernel
theorem dX5_isRightThree_18 : decode cX5_isRightThree 18 = .ok (.iadd, 1) := by decide +kernel
theorem dX5_isRightThree_19 : decode cX5_isRightThree 19 = .ok (.iaload, 1) := by decide +kernel
theorem dX5_isRightThree_20 : decode cX5_isRightThree 20 = .ok (.invokestatic 81, 3) := by decide +kernel
theorem dX5_isRightThree_23 : decode cX5_isRightThree 23 = .ok (.ifCond .eq 21, 3) := by decide +kernel
theorem dX5_isRightThree_26 : decode cX5_isRightThree 26 = .ok (.aload_n 0, 1) := by decide +kernel
theorem dX5_isRightThree_27 : decode cX5_isRightThree 27 = .ok (.getfield 28, 3) := by decide +kernel
theorem dX5_isRightThree_30 : decode cX5_isRightThree 30 = .ok (.iload_n 1, 1) := by decide +kernel
theorem dX5_isRightThree_31 : decode cX5_isRightThree 31 = .ok (.iconst 2, 1) := by decide +kernel
theorem dX5_isRightThree_32 : decode cX5_isRightThree 32 = .ok (.iadd, 1) := by decide +kernel
theorem dX5_isRightThree_33 : decode cX5_isRightThree 33 = .ok (.iaload, 1) := by decide +kernel
theorem dX5_isRightThree_34 : decode cX5_isRightThree 34 = .ok (.invokestatic 78, 3) := by decide +kernel
theorem dX5_isRightThree_37 : decode cX5_isRightThree 37 = .ok (.ifCond .eq 7, 3) := by decide +kernel
theorem dX5_isRightThree_40 : decode cX5_isRightThree 40 = .ok (.iconst 1, 1) := by decide +kernel
theorem dX5_isRightThree_41 : decode cX5_isRightThree 41 = .ok (.goto 4, 3) := by decide +kernel
theorem dX5_isRightThree_44 : decode cX5_isRightThree 44 = .ok (.iconst 0, 1) := by decide +kernel
theorem dX5_isRightThree_45 : decode cX5_isRightThree 45 = .ok (.ireturn, 1) := by decide +kernel
theorem dX5_reason_0 : decode cX5_reason 0 = .ok (.aload_n 0, 1) := by decide +kernel
theorem dX5_reason_1 : decode cX5_reason 1 = .ok (.getfield 59, 3) := by decide +kernel
theorem dX5_reason_4 : decode cX5_reason 4 = .ok (.ifCond .ne 5, 3) := by decide +kernel
theorem dX5_reason_7 : decode cX5_reason 7 = .ok (.iconst 1, 1) := by decide +kernel
theorem dX5_reason_8 : decode cX5_reason 8 = .ok (.ireturn, 1) := by decide +kernel
theorem dX5_reason_9 : decode cX5_reason 9 = .ok (.aload_n 0, 1) := by decide +kernel
theorem dX5_reason_10 : decode cX5_reason 10 = .ok (.invokevirtual 84, 3) := by decide +kernel
theorem dX5_reason_13 : decode cX5_reason 13 = .ok (.ifCond .eq 5, 3) := by decide +kernel
theorem dX5_reason_16 : decode cX5_reason 16 = .ok (.iconst 2, 1) := by decide +kernel
theorem dX5_reason_17 : decode cX5_reason 17 = .ok (.ireturn, 1) := by decide +kernel
theorem dX5_reason_18 : decode cX5_reason 18 = .ok (.aload_n 0, 1) := by decide +kernel
theorem dX5_reason_19 : decode cX5_reason 19 = .ok (.getfield 71, 3) := by decide +kernel
theorem dX5_reason_22 : decode cX5_reason 22 = .ok (.ifCond .eq 12, 3) := by decide +kernel
theorem dX5_reason_25 : decode cX5_reason 25 = .ok (.aload_n 0, 1) := by decide +kernel
theorem dX5_reason_26 : decode cX5_reason 26 = .ok (.getfield 71, 3) := by decide +kernel
theorem dX5_reason_29 : decode cX5_reason 29 = .ok (.iconst 3, 1) := by decide +kernel
theorem dX5_reason_30 : decode cX5_reason 30 = .ok (.irem, 1) := by decide +kernel
theorem dX5_reason_31 : decode cX5_reason 31 = .ok (.ifCond .eq 5, 3) := by decide +kernel
theorem dX5_reason_34 : decode cX5_reason 34 = .ok (.iconst 3, 1) := by decide +kernel
theorem dX5_reason_35 : decode cX5_reason 35 = .ok (.ireturn, 1) := by decide +kernel
theorem dX5_reason_36 : decode cX5_reason 36 = .ok (.iconst 0, 1) := by decide +kernel
theorem dX5_reason_37 : decode cX5_reason 37 = .ok (.istore_n 1, 1) := by decide +kernel
theorem dX5_reason_38 : decode cX5_reason 38 = .ok (.iconst 0, 1) := by decide +kernel
theorem dX5_reason_39 : decode cX5_reason 39 = .ok (.istore_n 2, 1) := by decide +kernel
theorem dX5_reason_40 : decode cX5_reason 40 = .ok (.iconst 0, 1) := by decide +kernel
theorem dX5_reason_41 : decode cX5_reason 41 = .ok (.istore_n 3, 1) := by decide +kernel
theorem dX5_reason_42 : decode cX5_reason 42 = .ok (.iload_n 3, 1) := by decide +kernel
theorem dX5_reason_43 : decode cX5_reason 43 = .ok (.aload_n 0, 1) := by decide +kernel
theorem dX5_reason_44 : decode cX5_reason 44 = .ok (.getfield 71, 3) := by decide +kernel
theorem dX5_reason_47 : decode cX5_reason 47 = .ok (.if_icmp .ge 54, 3) := by decide +kernel
theorem dX5_reason_50 : decode cX5_reason 50 = .ok (.iload_n 1, 1) := by decide +kernel
theorem dX5_reason_51 : decode cX5_reason 51 = .ok (.ifCond .ne 11, 3) := by decide +kernel
theorem dX5_reason_54 : decode cX5_reason 54 = .ok (.aload_n 0, 1) := by decide +kernel
theorem dX5_reason_55 : decode cX5_reason 55 = .ok (.iload_n 3, 1) := by decide +kernel
theorem dX5_reason_56 : decode cX5_reason 56 = .ok (.invokevirtual 88, 3) := by decide +kernel
theorem dX5_reason_59 : decode cX5_reason 59 = .ok (.ifCond .ne 7, 3) := by decide +kernel
theorem dX5_reason_62 : decode cX5_reason 62 = .ok (.iconst 1, 1) := by decide +kernel
theorem dX5_reason_63 : decode cX5_reason 63 = .ok (.goto 4, 3) := by decide +kernel
theorem dX5_reason_66 : decode cX5_reason 66 = .ok (.iconst 0, 1) := by decide +kernel
theorem dX5_reason_67 : decode cX5_reason 67 = .ok (.istore_n 1, 1) := by decide +kernel
theorem dX5_reason_68 : decode cX5_reason 68 = .ok (.iload_n 2, 1) := by decide +kernel
theorem dX5_reason_69 : decode cX5_reason 69 = .ok (.ifCond .ne 20, 3) := by decide +kernel
theorem dX5_reason_72 : decode cX5_reason 72 = .ok (.aload_n 0, 1) := by decide +kernel
theorem dX5_reason_73 : decode cX5_reason 73 = .ok (.getfield 28, 3) := by decide +kernel
theorem dX5_reason_76 : decode cX5_reason 76 = .ok (.iload_n 3, 1) := by decide +kernel
theorem dX5_reason_77 : decode cX5_reason 77 = .ok (.iaload, 1) := by decide +kernel
theorem dX5_reason_78 : decode cX5_reason 78 = .ok (.aload_n 0, 1) := by decide +kernel
theorem dX5_reason_79 : decode cX5_reason 79 = .ok (.getfield 28, 3) := by decide +kernel
theorem dX5_reason_82 : decode cX5_reason 82 = .ok (.iload_n 3, 1) := by decide +kernel
theorem dX5_reason_83 : decode cX5_reason 83 = .ok (.iconst 2, 1) := by decide +kernel
theorem dX5_reason_84 : decode cX5_reason 84 = .ok (.iadd, 1) := by decide +kernel
theorem dX5_reason_85 : decode cX5_reason 85 = .ok (.iaload, 1) := by decide +kernel
theorem dX5_reason_86 : decode cX5_reason 86 = .ok (.if_icmp .ne 7, 3) := by decide +kernel
theorem dX5_reason_89 : decode cX5_reason 89 = .ok (.iconst 1, 1) := by decide +kernel
theorem dX5_reason_90 : decode cX5_reason 90 = .ok (.goto 4, 3) := by decide +kernel
theorem dX5_reason_93 : decode cX5_reason 93 = .ok (.iconst 0, 1) := by decide +kernel
theorem dX5_reason_94 : decode cX5_reason 94 = .ok (.istore_n 2, 1) := by decide +kernel
theorem dX5_reason_95 : decode cX5_reason 95 = .ok (.iinc 3 3, 3) := by decide +kernel
theorem dX5_reason_98 : decode cX5_reason 98 = .ok (.goto (-56), 3) := by decide +kernel
theorem dX5_reason_101 : decode cX5_reason 101 = .ok (.iload_n 1, 1) := by decide +kernel
theorem dX5_reason_102 : decode cX5_reason 102 = .ok (.ifCond .eq 7, 3) := by decide +kernel
theorem dX5_reason_105 : decode cX5_reason 105 = .ok (.iconst 4, 1) := by decide +kernel
theorem dX5_reason_106 : decode cX5_reason 106 = .ok (.goto 12, 3) := by decide +kernel
theorem dX5_reason_109 : decode cX5_reason 109 = .ok (.iload_n 2, 1) := by decide +kernel
theorem dX5_reason_110 : decode cX5_reason 110 = .ok (.ifCond .eq 7, 3) := by decide +kernel
theorem dX5_reason_113 : decode cX5_reason 113 = .ok (.iconst 5, 1) := by decide +kernel
theorem dX5_reason_114 : decode cX5_reason 114 = .ok (.goto 4, 3) := by decide +kernel
theorem dX5_reason_117 : decode cX5_reason 117 = .ok (.iconst 0, 1) := by decide +kernel
theorem dX5_reason_118 : decode cX5_reason 118 = .ok (.ireturn, 1) := by decide +kernel
theorem dX5_sentences_0 : decode cX5_sentences 0 = .ok (.aload_n 0, 1) := by decide +kernel
theorem dX5_sentences_1 : decode cX5_sentences 1 = .ok (.iload_n 1, 1) := by decide +kernel
theorem dX5_sentences_2 : decode cX5_sentences 2 = .ok (.invokevirtual 91, 3) := by decide +kernel
theorem dX5_sentences_5 : decode cX5_sentences 5 = .ok (.aload_n 0, 1) := by decide +kernel
theorem dX5_sentences_6 : decode cX5_sentences 6 = .ok (.invokevirtual 95, 3) := by decide +kernel
theorem dX5_sentences_9 : decode cX5_sentences 9 = .ok (.ifCond .ne 12, 3) := by decide +kernel
theorem dX5_sentences_12 : decode cX5_sentences 12 = .ok (.aload_n 0, 1) := by decide +kernel
theorem dX5_sentences_13 : decode cX5_sentences 13 = .ok (.getfield 71, 3) := by decide +kernel
theorem dX5_sentences_16 : decode cX5_sentences 16 = .ok (.iconst 3, 1) := by decide +kernel
theorem dX5_sentences_17 : decode cX5_sentences 17 = .ok (.idiv, 1) := by decide +kernel
theorem dX5_sentences_18 : decode cX5_sentences 18 = .ok (.goto 4, 3) := by decide +kernel
theorem dX5_sentences_21 : decode cX5_sentences 21 = .ok (.iconst 0, 1) := by decide +kernel
theorem dX5_sentences_22 : decode cX5_sentences 22 = .ok (.ireturn, 1) := by decide +kernel
theorem dX5_at_0 : decode cX5_at 0 = .ok (.bipush 12, 2) := by decide +kernel
theorem dX5_at_2 : decode cX5_at 2 = .ok (.bipush 6, 2) := by decide +kernel
theorem dX5_at_4 : decode cX5_at 4 = .ok (.iload_n 0, 1) := by decide +kernel
theorem dX5_at_5 : decode cX5_at 5 = .ok (.imul, 1) := by decide +kernel
theorem dX5_at_6 : decode cX5_at 6 = .ok (.iadd, 1) := by decide +kernel
theorem dX5_at_7 : decode cX5_at 7 = .ok (.iload_n 1, 1) := by decide +kernel
theorem dX5_at_8 : decode cX5_at 8 = .ok (.iadd, 1) := by decide +kernel
theorem dX5_at_9 : decode cX5_at 9 = .ok (.ireturn, 1) := by decide +kernel
theorem dX5_takes_0 : decode cX5_takes 0 = .ok (.iload_n 3, 1) := by decide +kernel
theorem dX5_takes_1 : decode cX5_takes 1 = .ok (.iconst 2, 1) := by decide +kernel
theorem dX5_takes_2 : decode cX5_takes 2 = .ok (.irem, 1) := by decide +kernel
theorem dX5_takes_3 : decode cX5_takes 3 = .ok (.ifCond .ne 12, 3) := by decide +kernel
theorem dX5_takes_6 : decode cX5_takes 6 = .ok (.aload_n 0, 1) := by decide +kernel
theorem dX5_takes_7 : decode cX5_takes 7 = .ok (.getfield 7, 3) := by decide +kernel
theorem dX5_takes_10 : decode cX5_takes 10 = .ok (.iconst 1, 1) := by decide +kernel
theorem dX5_takes_11 : decode cX5_takes 11 = .ok (.iaload, 1) := by decide +kernel
theorem dX5_takes_12 : decode cX5_takes 12 = .ok (.goto 10, 3) := by decide +kernel
theorem dX5_takes_15 : decode cX5_takes 15 = .ok (.aload_n 0, 1) := by decide +kernel
theorem dX5_takes_16 : decode cX5_takes 16 = .ok (.getfield 7, 3) := by decide +kernel
theorem dX5_takes_19 : decode cX5_takes 19 = .ok (.iconst 2, 1) := by decide +kernel
theorem dX5_takes_20 : decode cX5_takes 20 = .ok (.iaload, 1) := by decide +kernel
theorem dX5_takes_21 : decode cX5_takes 21 = .ok (.ineg, 1) := by decide +kernel
theorem dX5_takes_22 : decode cX5_takes 22 = .ok (.istore 5, 2) := by decide +kernel
theorem dX5_takes_24 : decode cX5_takes 24 = .ok (.aload_n 0, 1) := by decide +kernel
theorem dX5_takes_25 : decode cX5_takes 25 = .ok (.getfield 7, 3) := by decide +kernel
theorem dX5_takes_28 : decode cX5_takes 28 = .ok (.iload_n 1, 1) := by decide +kernel
theorem dX5_takes_29 : decode cX5_takes 29 = .ok (.iload_n 2, 1) := by decide +kernel
theorem dX5_takes_30 : decode cX5_takes 30 = .ok (.invokestatic 99, 3) := by decide +kernel
theorem dX5_takes_33 : decode cX5_takes 33 = .ok (.iaload, 1) := by decide +kernel
theorem dX5_takes_34 : decode cX5_takes 34 = .ok (.iload_n 1, 1) := by decide +kernel
theorem dX5_takes_35 : decode cX5_takes 35 = .ok (.iload 4, 2) := by decide +kernel
theorem dX5_takes_37 : decode cX5_takes 37 = .ok (.if_icmp .ne 10, 3) := by decide +kernel
theorem dX5_takes_40 : decode cX5_takes 40 = .ok (.iconst 2, 1) := by decide +kernel
theorem dX5_takes_41 : decode cX5_takes 41 = .ok (.iload 5, 2) := by decide +kernel
theorem dX5_takes_43 : decode cX5_takes 43 = .ok (.imul, 1) := by decide +kernel
theorem dX5_takes_44 : decode cX5_takes 44 = .ok (.goto 5, 3) := by decide +kernel
theorem dX5_takes_47 : decode cX5_takes 47 = .ok (.iload 5, 2) := by decide +kernel
theorem dX5_takes_49 : decode cX5_takes 49 = .ok (.iadd, 1) := by decide +kernel
theorem dX5_takes_50 : decode cX5_takes 50 = .ok (.istore 6, 2) := by decide +kernel
theorem dX5_takes_52 : decode cX5_takes 52 = .ok (.aload_n 0, 1) := by decide +kernel
theorem dX5_takes_53 : decode cX5_takes 53 = .ok (.getfield 7, 3) := by decide +kernel
theorem dX5_takes_56 : decode cX5_takes 56 = .ok (.iload_n 1, 1) := by decide +kernel
theorem dX5_takes_57 : decode cX5_takes 57 = .ok (.iload_n 2, 1) := by decide +kernel
theorem dX5_takes_58 : decode cX5_takes 58 = .ok (.invokestatic 99, 3) := by decide +kernel
theorem dX5_takes_61 : decode cX5_takes 61 = .ok (.iload 6, 2) := by decide +kernel
theorem dX5_takes_63 : decode cX5_takes 63 = .ok (.bipush 99, 2) := by decide +kernel
theorem dX5_takes_65 : decode cX5_takes 65 = .ok (.if_icmp .le 8, 3) := by decide +kernel
theorem dX5_takes_68 : decode cX5_takes 68 = .ok (.bipush 99, 2) := by decide +kernel
theorem dX5_takes_70 : decode cX5_takes 70 = .ok (.goto 17, 3) := by decide +kernel
theorem dX5_takes_73 : decode cX5_takes 73 = .ok (.iload 6, 2) := by decide +kernel
theorem dX5_takes_75 : decode cX5_takes 75 = .ok (.bipush (-99), 2) := by decide +kernel
theorem dX5_takes_77 : decode cX5_takes 77 = .ok (.if_icmp .ge 8, 3) := by decide +kernel
theorem dX5_takes_80 : decode cX5_takes 80 = .ok (.bipush (-99), 2) := by decide +kernel
theorem dX5_takes_82 : decode cX5_takes 82 = .ok (.goto 5, 3) := by decide +kernel
theorem dX5_takes_85 : decode cX5_takes 85 = .ok (.iload 6, 2) := by decide +kernel
theorem dX5_takes_87 : decode cX5_takes 87 = .ok (.iastore, 1) := by decide +kernel
theorem dX5_takes_88 : decode cX5_takes 88 = .ok (.return_, 1) := by decide +kernel
theorem dX5_takesAll_0 : decode cX5_takesAll 0 = .ok (.aload_n 0, 1) := by decide +kernel
theorem dX5_takesAll_1 : decode cX5_takesAll 1 = .ok (.aload_n 0, 1) := by decide +kernel
theorem dX5_takesAll_2 : decode cX5_takesAll 2 = .ok (.getfield 7, 3) := by decide +kernel
theorem dX5_takesAll_5 : decode cX5_takesAll 5 = .ok (.bipush 6, 2) := by decide +kernel
theorem dX5_takesAll_7 : decode cX5_takesAll 7 = .ok (.iload_n 1, 1) := by decide +kernel
theorem dX5_takesAll_8 : decode cX5_takesAll 8 = .ok (.iadd, 1) := by decide +kernel
theorem dX5_takesAll_9 : decode cX5_takesAll 9 = .ok (.iaload, 1) := by decide +kernel
theorem dX5_takesAll_10 : decode cX5_takesAll 10 = .ok (.invokevirtual 102, 3) := by decide +kernel
theorem dX5_takesAll_13 : decode cX5_takesAll 13 = .ok (.istore_n 2, 1) := by decide +kernel
theorem dX5_takesAll_14 : decode cX5_takesAll 14 = .ok (.iconst 0, 1) := by decide +kernel
theorem dX5_takesAll_15 : decode cX5_takesAll 15 = .ok (.istore_n 3, 1) := by decide +kernel
theorem dX5_takesAll_16 : decode cX5_takesAll 16 = .ok (.iconst 0, 1) := by decide +kernel
theorem dX5_takesAll_17 : decode cX5_takesAll 17 = .ok (.istore 4, 2) := by decide +kernel
theorem dX5_takesAll_19 : decode cX5_takesAll 19 = .ok (.iload 4, 2) := by decide +kernel
theorem dX5_takesAll_21 : decode cX5_takesAll 21 = .ok (.iload_n 2, 1) := by decide +kernel
theorem dX5_takesAll_22 : decode cX5_takesAll 22 = .ok (.if_icmp .ge 61, 3) := by decide +kernel
theorem dX5_takesAll_25 : decode cX5_takesAll 25 = .ok (.aload_n 0, 1) := by decide +kernel
theorem dX5_takesAll_26 : decode cX5_takesAll 26 = .ok (.getfield 28, 3) := by decide +kernel
theorem dX5_takesAll_29 : decode cX5_takesAll 29 = .ok (.iconst 3, 1) := by decide +kernel
theorem dX5_takesAll_30 : decode cX5_takesAll 30 = .ok (.iload 4, 2) := by decide +kernel
theorem dX5_takesAll_32 : decode cX5_takesAll 32 = .ok (.imul, 1) := by decide +kernel
theorem dX5_takesAll_33 : decode cX5_takesAll 33 = .ok (.iaload, 1) := by decide +kernel
theorem dX5_takesAll_34 : decode cX5_takesAll 34 = .ok (.iload_n 1, 1) := by decide +kernel
theorem dX5_takesAll_35 : decode cX5_takesAll 35 = .ok (.if_icmp .eq 42, 3) := by decide +kernel
theorem dX5_takesAll_38 : decode cX5_takesAll 38 = .ok (.aload_n 0, 1) := by decide +kernel
theorem dX5_takesAll_39 : decode cX5_takesAll 39 = .ok (.iload_n 1, 1) := by decide +kernel
theorem dX5_takesAll_40 : decode cX5_takesAll 40 = .ok (.aload_n 0, 1) := by decide +kernel
theorem dX5_takesAll_41 : decode cX5_takesAll 41 = .ok (.getfield 28, 3) := by decide +kernel
theorem dX5_takesAll_44 : decode cX5_takesAll 44 = .ok (.iconst 3, 1) := by decide +kernel
theorem dX5_takesAll_45 : decode cX5_takesAll 45 = .ok (.iload 4, 2) := by decide +kernel
theorem dX5_takesAll_47 : decode cX5_takesAll 47 = .ok (.imul, 1) := by decide +kernel
theorem dX5_takesAll_48 : decode cX5_takesAll 48 = .ok (.iaload, 1) := by decide +kernel
theorem dX5_takesAll_49 : decode cX5_takesAll 49 = .ok (.aload_n 0, 1) := by decide +kernel
theorem dX5_takesAll_50 : decode cX5_takesAll 50 = .ok (.getfield 28, 3) := by decide +kernel
theorem dX5_takesAll_53 : decode cX5_takesAll 53 = .ok (.iconst 3, 1) := by decide +kernel
theorem dX5_takesAll_54 : decode cX5_takesAll 54 = .ok (.iload 4, 2) := by decide +kernel
theorem dX5_takesAll_56 : decode cX5_takesAll 56 = .ok (.imul, 1) := by decide +kernel
theorem dX5_takesAll_57 : decode cX5_takesAll 57 = .ok (.iconst 1, 1) := by decide +kernel
theorem dX5_takesAll_58 : decode cX5_takesAll 58 = .ok (.iadd, 1) := by decide +kernel
theorem dX5_takesAll_59 : decode cX5_takesAll 59 = .ok (.iaload, 1) := by decide +kernel
theorem dX5_takesAll_60 : decode cX5_takesAll 60 = .ok (.aload_n 0, 1) := by decide +kernel
theorem dX5_takesAll_61 : decode cX5_takesAll 61 = .ok (.getfield 28, 3) := by decide +kernel
theorem dX5_takesAll_64 : decode cX5_takesAll 64 = .ok (.iconst 3, 1) := by decide +kernel
theorem dX5_takesAll_65 : decode cX5_takesAll 65 = .ok (.iload 4, 2) := by decide +kernel
theorem dX5_takesAll_67 : decode cX5_takesAll 67 = .ok (.imul, 1) := by decide +kernel
theorem dX5_takesAll_68 : decode cX5_takesAll 68 = .ok (.iconst 2, 1) := by decide +kernel
theorem dX5_takesAll_69 : decode cX5_takesAll 69 = .ok (.iadd, 1) := by decide +kernel
theorem dX5_takesAll_70 : decode cX5_takesAll 70 = .ok (.iaload, 1) := by decide +kernel
theorem dX5_takesAll_71 : decode cX5_takesAll 71 = .ok (.invokevirtual 106, 3) := by decide +kernel
theorem dX5_takesAll_74 : decode cX5_takesAll 74 = .ok (.iinc 3 1, 3) := by decide +kernel
theorem dX5_takesAll_77 : decode cX5_takesAll 77 = .ok (.iinc 4 1, 3) := by decide +kernel
theorem dX5_takesAll_80 : decode cX5_takesAll 80 = .ok (.goto (-61), 3) := by decide +kernel
theorem dX5_takesAll_83 : decode cX5_takesAll 83 = .ok (.iload_n 3, 1) := by decide +kernel
theorem dX5_takesAll_84 : decode cX5_takesAll 84 = .ok (.ireturn, 1) := by decide +kernel
theorem dX5_hushes_0 : decode cX5_hushes 0 = .ok (.bipush 48, 2) := by decide +kernel
theorem dX5_hushes_2 : decode cX5_hushes 2 = .ok (.istore_n 1, 1) := by decide +kernel
theorem dX5_hushes_3 : decode cX5_hushes 3 = .ok (.iload_n 1, 1) := by decide +kernel
theorem dX5_hushes_4 : decode cX5_hushes 4 = .ok (.bipush 120, 2) := by decide +kernel
theorem dX5_hushes_6 : decode cX5_hushes 6 = .ok (.if_icmp .ge 16, 3) := by decide +kernel
theorem dX5_hushes_9 : decode cX5_hushes 9 = .ok (.aload_n 0, 1) := by decide +kernel
theorem dX5_hushes_10 : decode cX5_hushes 10 = .ok (.getfield 7, 3) := by decide +kernel
theorem dX5_hushes_13 : decode cX5_hushes 13 = .ok (.iload_n 1, 1) := by decide +kernel
theorem dX5_hushes_14 : decode cX5_hushes 14 = .ok (.iconst 0, 1) := by decide +kernel
theorem dX5_hushes_15 : decode cX5_hushes 15 = .ok (.iastore, 1) := by decide +kernel
theorem dX5_hushes_16 : decode cX5_hushes 16 = .ok (.iinc 1 1, 3) := by decide +kernel
theorem dX5_hushes_19 : decode cX5_hushes 19 = .ok (.goto (-16), 3) := by decide +kernel
theorem dX5_hushes_22 : decode cX5_hushes 22 = .ok (.aload_n 0, 1) := by decide +kernel
theorem dX5_hushes_23 : decode cX5_hushes 23 = .ok (.getfield 7, 3) := by decide +kernel
theorem dX5_hushes_26 : decode cX5_hushes 26 = .ok (.iconst 3, 1) := by decide +kernel
theorem dX5_hushes_27 : decode cX5_hushes 27 = .ok (.iconst 0, 1) := by decide +kernel
theorem dX5_hushes_28 : decode cX5_hushes 28 = .ok (.iastore, 1) := by decide +kernel
theorem dX5_hushes_29 : decode cX5_hushes 29 = .ok (.return_, 1) := by decide +kernel
theorem dX5_gives_0 : decode cX5_gives 0 = .ok (.iconst 0, 1) := by decide +kernel
theorem dX5_gives_1 : decode cX5_gives 1 = .ok (.istore_n 1, 1) := by decide +kernel
theorem dX5_gives_2 : decode cX5_gives 2 = .ok (.iconst 0, 1) := by decide +kernel
theorem dX5_gives_3 : decode cX5_gives 3 = .ok (.istore_n 2, 1) := by decide +kernel
theorem dX5_gives_4 : decode cX5_gives 4 = .ok (.iload_n 2, 1) := by decide +kernel
theorem dX5_gives_5 : decode cX5_gives 5 = .ok (.bipush 6, 2) := by decide +kernel
theorem dX5_gives_7 : decode cX5_gives 7 = .ok (.if_icmp .ge 17, 3) := by decide +kernel
theorem dX5_gives_10 : decode cX5_gives 10 = .ok (.iload_n 1, 1) := by decide +kernel
theorem dX5_gives_11 : decode cX5_gives 11 = .ok (.aload_n 0, 1) := by decide +kernel
theorem dX5_gives_12 : decode cX5_gives 12 = .ok (.iload_n 2, 1) := by decide +kernel
theorem dX5_gives_13 : decode cX5_gives 13 = .ok (.invokevirtual 110, 3) := by decide +kernel
theorem dX5_gives_16 : decode cX5_gives 16 = .ok (.iadd, 1) := by decide +kernel
theorem dX5_gives_17 : decode cX5_gives 17 = .ok (.istore_n 1, 1) := by decide +kernel
theorem dX5_gives_18 : decode cX5_gives 18 = .ok (.iinc 2 1, 3) := by decide +kernel
theorem dX5_gives_21 : decode cX5_gives 21 = .ok (.goto (-17), 3) := by decide +kernel
theorem dX5_gives_24 : decode cX5_gives 24 = .ok (.aload_n 0, 1) := by decide +kernel
theorem dX5_gives_25 : decode cX5_gives 25 = .ok (.getfield 7, 3) := by decide +kernel
theorem dX5_gives_28 : decode cX5_gives 28 = .ok (.iconst 4, 1) := by decide +kernel
theorem dX5_gives_29 : decode cX5_gives 29 = .ok (.dup2, 1) := by decide +kernel
theorem dX5_gives_30 : decode cX5_gives 30 = .ok (.iaload, 1) := by decide +kernel
theorem dX5_gives_31 : decode cX5_gives 31 = .ok (.iconst 1, 1) := by decide +kernel
theorem dX5_gives_32 : decode cX5_gives 32 = .ok (.iadd, 1) := by decide +kernel
theorem dX5_gives_33 : decode cX5_gives 33 = .ok (.iastore, 1) := by decide +kernel
theorem dX5_gives_34 : decode cX5_gives 34 = .ok (.aload_n 0, 1) := by decide +kernel
theorem dX5_gives_35 : decode cX5_gives 35 = .ok (.getfield 7, 3) := by decide +kernel
theorem dX5_gives_38 : decode cX5_gives 38 = .ok (.iconst 5, 1) := by decide +kernel
theorem dX5_gives_39 : decode cX5_gives 39 = .ok (.dup2, 1) := by decide +kernel
theorem dX5_gives_40 : decode cX5_gives 40 = .ok (.iaload, 1) := by decide +kernel
theorem dX5_gives_41 : decode cX5_gives 41 = .ok (.iload_n 1, 1) := by decide +kernel
theorem dX5_gives_42 : decode cX5_gives 42 = .ok (.iadd, 1) := by decide +kernel
theorem dX5_gives_43 : decode cX5_gives 43 = .ok (.iastore, 1) := by decide +kernel
theorem dX5_gives_44 : decode cX5_gives 44 = .ok (.aload_n 0, 1) := by decide +kernel
theorem dX5_gives_45 : decode cX5_gives 45 = .ok (.invokevirtual 113, 3) := by decide +kernel
theorem dX5_gives_48 : decode cX5_gives 48 = .ok (.iload_n 1, 1) := by decide +kernel
theorem dX5_gives_49 : decode cX5_gives 49 = .ok (.ireturn, 1) := by decide +kernel
theorem dX5_canGive_0 : decode cX5_canGive 0 = .ok (.aload_n 0, 1) := by decide +kernel
theorem dX5_canGive_1 : decode cX5_canGive 1 = .ok (.iconst 0, 1) := by decide +kernel
theorem dX5_canGive_2 : decode cX5_canGive 2 = .ok (.invokevirtual 102, 3) := by decide +kernel
theorem dX5_canGive_5 : decode cX5_canGive 5 = .ok (.ifCond .le 7, 3) := by decide +kernel
theorem dX5_canGive_8 : decode cX5_canGive 8 = .ok (.iconst 1, 1) := by decide +kernel
theorem dX5_canGive_9 : decode cX5_canGive 9 = .ok (.goto 4, 3) := by decide +kernel
theorem dX5_canGive_12 : decode cX5_canGive 12 = .ok (.iconst 0, 1) := by decide +kernel
theorem dX5_canGive_13 : decode cX5_canGive 13 = .ok (.ireturn, 1) := by decide +kernel
theorem dX5_isSetting_0 : decode cX5_isSetting 0 = .ok (.iload_n 0, 1) := by decide +kernel
theorem dX5_isSetting_1 : decode cX5_isSetting 1 = .ok (.tableswitch 49 0 2 #[27, 39, 39], 27) := by decide +kernel
theorem dX5_isSetting_28 : decode cX5_isSetting 28 = .ok (.iload_n 1, 1) := by decide +kernel
theorem dX5_isSetting_29 : decode cX5_isSetting 29 = .ok (.i2l, 1) := by decide +kernel
theorem dX5_isSetting_30 : decode cX5_isSetting 30 = .ok (.ldc2_w 47, 3) := by decide +kernel
theorem dX5_isSetting_33 : decode cX5_isSetting 33 = .ok (.ldc2_w 116, 3) := by decide +kernel
theorem dX5_isSetting_36 : decode cX5_isSetting 36 = .ok (.invokestatic 49, 3) := by decide +kernel
theorem dX5_isSetting_39 : decode cX5_isSetting 39 = .ok (.ireturn, 1) := by decide +kernel
theorem dX5_isSetting_40 : decode cX5_isSetting 40 = .ok (.iload_n 1, 1) := by decide +kernel
theorem dX5_isSetting_41 : decode cX5_isSetting 41 = .ok (.i2l, 1) := by decide +kernel
theorem dX5_isSetting_42 : decode cX5_isSetting 42 = .ok (.lconst 1, 1) := by decide +kernel
theorem dX5_isSetting_43 : decode cX5_isSetting 43 = .ok (.ldc2_w 116, 3) := by decide +kernel
theorem dX5_isSetting_46 : decode cX5_isSetting 46 = .ok (.invokestatic 49, 3) := by decide +kernel
theorem dX5_isSetting_49 : decode cX5_isSetting 49 = .ok (.ireturn, 1) := by decide +kernel
theorem dX5_isSetting_50 : decode cX5_isSetting 50 = .ok (.iconst 0, 1) := by decide +kernel
theorem dX5_isSetting_51 : decode cX5_isSetting 51 = .ok (.ireturn, 1) := by decide +kernel
theorem dX5_set_0 : decode cX5_set 0 = .ok (.iload_n 1, 1) := by decide +kernel
theorem dX5_set_1 : decode cX5_set 1 = .ok (.iload_n 2, 1) := by decide +kernel
theorem dX5_set_2 : decode cX5_set 2 = .ok (.invokestatic 118, 3) := by decide +kernel
theorem dX5_set_5 : decode cX5_set 5 = .ok (.ifCond .ne 6, 3) := by decide +kernel
theorem dX5_set_8 : decode cX5_set 8 = .ok (.ldc 121, 2) := by decide +kernel
theorem dX5_set_10 : decode cX5_set 10 = .ok (.ireturn, 1) := by decide +kernel
theorem dX5_set_11 : decode cX5_set 11 = .ok (.aload_n 0, 1) := by decide +kernel
theorem dX5_set_12 : decode cX5_set 12 = .ok (.invokevirtual 122, 3) := by decide +kernel
theorem dX5_set_15 : decode cX5_set 15 = .ok (.aload_n 0, 1) := by decide +kernel
theorem dX5_set_16 : decode cX5_set 16 = .ok (.getfield 7, 3) := by decide +kernel
theorem dX5_set_19 : decode cX5_set 19 = .ok (.iload_n 1, 1) := by decide +kernel
theorem dX5_set_20 : decode cX5_set 20 = .ok (.iaload, 1) := by decide +kernel
theorem dX5_set_21 : decode cX5_set 21 = .ok (.istore_n 3, 1) := by decide +kernel
theorem dX5_set_22 : decode cX5_set 22 = .ok (.aload_n 0, 1) := by decide +kernel
theorem dX5_set_23 : decode cX5_set 23 = .ok (.getfield 7, 3) := by decide +kernel
theorem dX5_set_26 : decode cX5_set 26 = .ok (.iload_n 1, 1) := by decide +kernel
theorem dX5_set_27 : decode cX5_set 27 = .ok (.iload_n 2, 1) := by decide +kernel
theorem dX5_set_28 : decode cX5_set 28 = .ok (.iastore, 1) := by decide +kernel
theorem dX5_set_29 : decode cX5_set 29 = .ok (.iload_n 3, 1) := by decide +kernel
theorem dX5_set_30 : decode cX5_set 30 = .ok (.ireturn, 1) := by decide +kernel
theorem dX5_eyes_0 : decode cX5_eyes 0 = .ok (.iload_n 1, 1) := by decide +kernel
theorem dX5_eyes_1 : decode cX5_eyes 1 = .ok (.invokestatic 78, 3) := by decide +kernel
theorem dX5_eyes_4 : decode cX5_eyes 4 = .ok (.ifCond .ne 6, 3) := by decide +kernel
theorem dX5_eyes_7 : decode cX5_eyes 7 = .ok (.ldc 125, 2) := by decide +kernel
theorem dX5_eyes_9 : decode cX5_eyes 9 = .ok (.ireturn, 1) := by decide +kernel
theorem dX5_eyes_10 : decode cX5_eyes 10 = .ok (.iload_n 2, 1) := by decide +kernel
theorem dX5_eyes_11 : decode cX5_eyes 11 = .ok (.invokestatic 126, 3) := by decide +kernel
theorem dX5_eyes_14 : decode cX5_eyes 14 = .ok (.ifCond .ne 6, 3) := by decide +kernel
theorem dX5_eyes_17 : decode cX5_eyes 17 = .ok (.ldc 121, 2) := by decide +kernel
theorem dX5_eyes_19 : decode cX5_eyes 19 = .ok (.ireturn, 1) := by decide +kernel
theorem dX5_eyes_20 : decode cX5_eyes 20 = .ok (.aload_n 0, 1) := by decide +kernel
theorem dX5_eyes_21 : decode cX5_eyes 21 = .ok (.invokevirtual 122, 3) := by decide +kernel
theorem dX5_eyes_24 : decode cX5_eyes 24 = .ok (.aload_n 0, 1) := by decide +kernel
theorem dX5_eyes_25 : decode cX5_eyes 25 = .ok (.getfield 7, 3) := by decide +kernel
theorem dX5_eyes_28 : decode cX5_eyes 28 = .ok (.bipush 6, 2) := by decide +kernel
theorem dX5_eyes_30 : decode cX5_eyes 30 = .ok (.iload_n 1, 1) := by decide +kernel
theorem dX5_eyes_31 : decode cX5_eyes 31 = .ok (.iadd, 1) := by decide +kernel
theorem dX5_eyes_32 : decode cX5_eyes 32 = .ok (.iaload, 1) := by decide +kernel
theorem dX5_eyes_33 : decode cX5_eyes 33 = .ok (.istore_n 3, 1) := by decide +kernel
theorem dX5_eyes_34 : decode cX5_eyes 34 = .ok (.aload_n 0, 1) := by decide +kernel
theorem dX5_eyes_35 : decode cX5_eyes 35 = .ok (.getfield 7, 3) := by decide +kernel
theorem dX5_eyes_38 : decode cX5_eyes 38 = .ok (.bipush 6, 2) := by decide +kernel
theorem dX5_eyes_40 : decode cX5_eyes 40 = .ok (.iload_n 1, 1) := by decide +kernel
theorem dX5_eyes_41 : decode cX5_eyes 41 = .ok (.iadd, 1) := by decide +kernel
theorem dX5_eyes_42 : decode cX5_eyes 42 = .ok (.iload_n 2, 1) := by decide +kernel
theorem dX5_eyes_43 : decode cX5_eyes 43 = .ok (.iastore, 1) := by decide +kernel
theorem dX5_eyes_44 : decode cX5_eyes 44 = .ok (.iload_n 3, 1) := by decide +kernel
theorem dX5_eyes_45 : decode cX5_eyes 45 = .ok (.ireturn, 1) := by decide +kernel
theorem dX5_adds_0 : decode cX5_adds 0 = .ok (.aload_n 0, 1) := by decide +kernel
theorem dX5_adds_1 : decode cX5_adds 1 = .ok (.getfield 7, 3) := by decide +kernel
theorem dX5_adds_4 : decode cX5_adds 4 = .ok (.bipush 48, 2) := by decide +kernel
theorem dX5_adds_6 : decode cX5_adds 6 = .ok (.aload_n 0, 1) := by decide +kernel
theorem dX5_adds_7 : decode cX5_adds 7 = .ok (.getfield 7, 3) := by decide +kernel
theorem dX5_adds_10 : decode cX5_adds 10 = .ok (.iconst 3, 1) := by decide +kernel
theorem dX5_adds_11 : decode cX5_adds 11 = .ok (.iaload, 1) := by decide +kernel
theorem dX5_adds_12 : decode cX5_adds 12 = .ok (.iadd, 1) := by decide +kernel
theorem dX5_adds_13 : decode cX5_adds 13 = .ok (.iload_n 1, 1) := by decide +kernel
theorem dX5_adds_14 : decode cX5_adds 14 = .ok (.iastore, 1) := by decide +kernel
theorem dX5_adds_15 : decode cX5_adds 15 = .ok (.aload_n 0, 1) := by decide +kernel
theorem dX5_adds_16 : decode cX5_adds 16 = .ok (.getfield 7, 3) := by decide +kernel
theorem dX5_adds_19 : decode cX5_adds 19 = .ok (.bipush 72, 2) := by decide +kernel
theorem dX5_adds_21 : decode cX5_adds 21 = .ok (.aload_n 0, 1) := by decide +kernel
theorem dX5_adds_22 : decode cX5_adds 22 = .ok (.getfield 7, 3) := by decide +kernel
theorem dX5_adds_25 : decode cX5_adds 25 = .ok (.iconst 3, 1) := by decide +kernel
theorem dX5_adds_26 : decode cX5_adds 26 = .ok (.iaload, 1) := by decide +kernel
theorem dX5_adds_27 : decode cX5_adds 27 = .ok (.iadd, 1) := by decide +kernel
theorem dX5_adds_28 : decode cX5_adds 28 = .ok (.iload_n 2, 1) := by decide +kernel
theorem dX5_adds_29 : decode cX5_adds 29 = .ok (.iastore, 1) := by decide +kernel
theorem dX5_adds_30 : decode cX5_adds 30 = .ok (.aload_n 0, 1) := by decide +kernel
theorem dX5_adds_31 : decode cX5_adds 31 = .ok (.getfield 7, 3) := by decide +kernel
theorem dX5_adds_34 : decode cX5_adds 34 = .ok (.iconst 3, 1) := by decide +kernel
theorem dX5_adds_35 : decode cX5_adds 35 = .ok (.dup2, 1) := by decide +kernel
theorem dX5_adds_36 : decode cX5_adds 36 = .ok (.iaload, 1) := by decide +kernel
theorem dX5_adds_37 : decode cX5_adds 37 = .ok (.iconst 1, 1) := by decide +kernel
theorem dX5_adds_38 : decode cX5_adds 38 = .ok (.iadd, 1) := by decide +kernel
theorem dX5_adds_39 : decode cX5_adds 39 = .ok (.iastore, 1) := by decide +kernel
theorem dX5_adds_40 : decode cX5_adds 40 = .ok (.return_, 1) := by decide +kernel
theorem dX5_bow_0 : decode cX5_bow 0 = .ok (.iload_n 1, 1) := by decide +kernel
theorem dX5_bow_1 : decode cX5_bow 1 = .ok (.i2l, 1) := by decide +kernel
theorem dX5_bow_2 : decode cX5_bow 2 = .ok (.lconst 1, 1) := by decide +kernel
theorem dX5_bow_3 : decode cX5_bow 3 = .ok (.ldc2_w 129, 3) := by decide +kernel
theorem dX5_bow_6 : decode cX5_bow 6 = .ok (.invokestatic 49, 3) := by decide +kernel
theorem dX5_bow_9 : decode cX5_bow 9 = .ok (.ifCond .eq 25, 3) := by decide +kernel
theorem dX5_bow_12 : decode cX5_bow 12 = .ok (.iload_n 2, 1) := by decide +kernel
theorem dX5_bow_13 : decode cX5_bow 13 = .ok (.i2l, 1) := by decide +kernel
theorem dX5_bow_14 : decode cX5_bow 14 = .ok (.lconst 0, 1) := by decide +kernel
theorem dX5_bow_15 : decode cX5_bow 15 = .ok (.lconst 1, 1) := by decide +kernel
theorem dX5_bow_16 : decode cX5_bow 16 = .ok (.invokestatic 49, 3) := by decide +kernel
theorem dX5_bow_19 : decode cX5_bow 19 = .ok (.ifCond .eq 15, 3) := by decide +kernel
theorem dX5_bow_22 : decode cX5_bow 22 = .ok (.iload_n 3, 1) := by decide +kernel
theorem dX5_bow_23 : decode cX5_bow 23 = .ok (.i2l, 1) := by decide +kernel
theorem dX5_bow_24 : decode cX5_bow 24 = .ok (.lconst 0, 1) := by decide +kernel
theorem dX5_bow_25 : decode cX5_bow 25 = .ok (.ldc2_w 116, 3) := by decide +kernel
theorem dX5_bow_28 : decode cX5_bow 28 = .ok (.invokestatic 49, 3) := by decide +kernel
theorem dX5_bow_31 : decode cX5_bow 31 = .ok (.ifCond .ne 6, 3) := by decide +kernel
theorem dX5_bow_34 : decode cX5_bow 34 = .ok (.ldc 121, 2) := by decide +kernel
theorem dX5_bow_36 : decode cX5_bow 36 = .ok (.ireturn, 1) := by decide +kernel
theorem dX5_bow_37 : decode cX5_bow 37 = .ok (.aload_n 0, 1) := by decide +kernel
theorem dX5_bow_38 : decode cX5_bow 38 = .ok (.getfield 7, 3) := by decide +kernel
theorem dX5_bow_41 : decode cX5_bow 41 = .ok (.iconst 3, 1) := by decide +kernel
theorem dX5_bow_42 : decode cX5_bow 42 = .ok (.iaload, 1) := by decide +kernel
theorem dX5_bow_43 : decode cX5_bow 43 = .ok (.bipush 24, 2) := by decide +kernel
theorem dX5_bow_45 : decode cX5_bow 45 = .ok (.if_icmp .ne 6, 3) := by decide +kernel
theorem dX5_bow_48 : decode cX5_bow 48 = .ok (.ldc 131, 2) := by decide +kernel
theorem dX5_bow_50 : decode cX5_bow 50 = .ok (.ireturn, 1) := by decide +kernel
theorem dX5_bow_51 : decode cX5_bow 51 = .ok (.aload_n 0, 1) := by decide +kernel
theorem dX5_bow_52 : decode cX5_bow 52 = .ok (.invokevirtual 122, 3) := by decide +kernel
theorem dX5_bow_55 : decode cX5_bow 55 = .ok (.aload_n 0, 1) := by decide +kernel
theorem dX5_bow_56 : decode cX5_bow 56 = .ok (.iconst 2, 1) := by decide +kernel
theorem dX5_bow_57 : decode cX5_bow 57 = .ok (.iload_n 1, 1) := by decide +kernel
theorem dX5_bow_58 : decode cX5_bow 58 = .ok (.iconst 1, 1) := by decide +kernel
theorem dX5_bow_59 : decode cX5_bow 59 = .ok (.isub, 1) := by decide +kernel
theorem dX5_bow_60 : decode cX5_bow 60 = .ok (.imul, 1) := by decide +kernel
theorem dX5_bow_61 : decode cX5_bow 61 = .ok (.iload_n 2, 1) := by decide +kernel
theorem dX5_bow_62 : decode cX5_bow 62 = .ok (.iadd, 1) := by decide +kernel
theorem dX5_bow_63 : decode cX5_bow 63 = .ok (.iload_n 3, 1) := by decide +kernel
theorem dX5_bow_64 : decode cX5_bow 64 = .ok (.invokevirtual 132, 3) := by decide +kernel
theorem dX5_bow_67 : decode cX5_bow 67 = .ok (.aload_n 0, 1) := by decide +kernel
theorem dX5_bow_68 : decode cX5_bow 68 = .ok (.getfield 7, 3) := by decide +kernel
theorem dX5_bow_71 : decode cX5_bow 71 = .ok (.iconst 3, 1) := by decide +kernel
theorem dX5_bow_72 : decode cX5_bow 72 = .ok (.iaload, 1) := by decide +kernel
theorem dX5_bow_73 : decode cX5_bow 73 = .ok (.ireturn, 1) := by decide +kernel
theorem dX5_takeBack_0 : decode cX5_takeBack 0 = .ok (.aload_n 0, 1) := by decide +kernel
theorem dX5_takeBack_1 : decode cX5_takeBack 1 = .ok (.getfield 7, 3) := by decide +kernel
theorem dX5_takeBack_4 : decode cX5_takeBack 4 = .ok (.iconst 3, 1) := by decide +kernel
theorem dX5_takeBack_5 : decode cX5_takeBack 5 = .ok (.iaload, 1) := by decide +kernel
theorem dX5_takeBack_6 : decode cX5_takeBack 6 = .ok (.ifCond .ne 6, 3) := by decide +kernel
theorem dX5_takeBack_9 : decode cX5_takeBack 9 = .ok (.ldc 136, 2) := by decide +kernel
theorem dX5_takeBack_11 : decode cX5_takeBack 11 = .ok (.ireturn, 1) := by decide +kernel
theorem dX5_takeBack_12 : decode cX5_takeBack 12 = .ok (.aload_n 0, 1) := by decide +kernel
theorem dX5_takeBack_13 : decode cX5_takeBack 13 = .ok (.invokevirtual 122, 3) := by decide +kernel
theorem dX5_takeBack_16 : decode cX5_takeBack 16 = .ok (.aload_n 0, 1) := by decide +kernel
theorem dX5_takeBack_17 : decode cX5_takeBack 17 = .ok (.getfield 7, 3) := by decide +kernel
theorem dX5_takeBack_20 : decode cX5_takeBack 20 = .ok (.iconst 3, 1) := by decide +kernel
theorem dX5_takeBack_21 : decode cX5_takeBack 21 = .ok (.dup2, 1) := by decide +kernel
theorem dX5_takeBack_22 : decode cX5_takeBack 22 = .ok (.iaload, 1) := by decide +kernel
theorem dX5_takeBack_23 : decode cX5_takeBack 23 = .ok (.iconst 1, 1) := by decide +kernel
theorem dX5_takeBack_24 : decode cX5_takeBack 24 = .ok (.isub, 1) := by decide +kernel
theorem dX5_takeBack_25 : decode cX5_takeBack 25 = .ok (.iastore, 1) := by decide +kernel
theorem dX5_takeBack_26 : decode cX5_takeBack 26 = .ok (.aload_n 0, 1) := by decide +kernel
theorem dX5_takeBack_27 : decode cX5_takeBack 27 = .ok (.getfield 7, 3) := by decide +kernel
theorem dX5_takeBack_30 : decode cX5_takeBack 30 = .ok (.bipush 48, 2) := by decide +kernel
theorem dX5_takeBack_32 : decode cX5_takeBack 32 = .ok (.aload_n 0, 1) := by decide +kernel
theorem dX5_takeBack_33 : decode cX5_takeBack 33 = .ok (.getfield 7, 3) := by decide +kernel
theorem dX5_takeBack_36 : decode cX5_takeBack 36 = .ok (.iconst 3, 1) := by decide +kernel
theorem dX5_takeBack_37 : decode cX5_takeBack 37 = .ok (.iaload, 1) := by decide +kernel
theorem dX5_takeBack_38 : decode cX5_takeBack 38 = .ok (.iadd, 1) := by decide +kernel
theorem dX5_takeBack_39 : decode cX5_takeBack 39 = .ok (.iaload, 1) := by decide +kernel
theorem dX5_takeBack_40 : decode cX5_takeBack 40 = .ok (.istore_n 1, 1) := by decide +kernel
theorem dX5_takeBack_41 : decode cX5_takeBack 41 = .ok (.aload_n 0, 1) := by decide +kernel
theorem dX5_takeBack_42 : decode cX5_takeBack 42 = .ok (.getfield 7, 3) := by decide +kernel
theorem dX5_takeBack_45 : decode cX5_takeBack 45 = .ok (.bipush 48, 2) := by decide +kernel
theorem dX5_takeBack_47 : decode cX5_takeBack 47 = .ok (.aload_n 0, 1) := by decide +kernel
theorem dX5_takeBack_48 : decode cX5_takeBack 48 = .ok (.getfield 7, 3) := by decide +kernel
theorem dX5_takeBack_51 : decode cX5_takeBack 51 = .ok (.iconst 3, 1) := by decide +kernel
theorem dX5_takeBack_52 : decode cX5_takeBack 52 = .ok (.iaload, 1) := by decide +kernel
theorem dX5_takeBack_53 : decode cX5_takeBack 53 = .ok (.iadd, 1) := by decide +kernel
theorem dX5_takeBack_54 : decode cX5_takeBack 54 = .ok (.iconst 0, 1) := by decide +kernel
theorem dX5_takeBack_55 : decode cX5_takeBack 55 = .ok (.iastore, 1) := by decide +kernel
theorem dX5_takeBack_56 : decode cX5_takeBack 56 = .ok (.aload_n 0, 1) := by decide +kernel
theorem dX5_takeBack_57 : decode cX5_takeBack 57 = .ok (.getfield 7, 3) := by decide +kernel
theorem dX5_takeBack_60 : decode cX5_takeBack 60 = .ok (.bipush 72, 2) := by decide +kernel
theorem dX5_takeBack_62 : decode cX5_takeBack 62 = .ok (.aload_n 0, 1) := by decide +kernel
theorem dX5_takeBack_63 : decode cX5_takeBack 63 = .ok (.getfield 7, 3) := by decide +kernel
theorem dX5_takeBack_66 : decode cX5_takeBack 66 = .ok (.iconst 3, 1) := by decide +kernel
theorem dX5_takeBack_67 : decode cX5_takeBack 67 = .ok (.iaload, 1) := by decide +kernel
theorem dX5_takeBack_68 : decode cX5_takeBack 68 = .ok (.iadd, 1) := by decide +kernel
theorem dX5_takeBack_69 : decode cX5_takeBack 69 = .ok (.iconst 0, 1) := by decide +kernel
theorem dX5_takeBack_70 : decode cX5_takeBack 70 = .ok (.iastore, 1) := by decide +kernel
theorem dX5_takeBack_71 : decode cX5_takeBack 71 = .ok (.iload_n 1, 1) := by decide +kernel
theorem dX5_takeBack_72 : decode cX5_takeBack 72 = .ok (.ireturn, 1) := by decide +kernel
theorem dX5_read_0 : decode cX5_read 0 = .ok (.aload_n 0, 1) := by decide +kernel
theorem dX5_read_1 : decode cX5_read 1 = .ok (.invokevirtual 137, 3) := by decide +kernel
theorem dX5_read_4 : decode cX5_read 4 = .ok (.ldc 70, 2) := by decide +kernel
theorem dX5_read_6 : decode cX5_read 6 = .ok (.if_icmp .eq 6, 3) := by decide +kernel
theorem dX5_read_9 : decode cX5_read 9 = .ok (.ldc 140, 2) := by decide +kernel
theorem dX5_read_11 : decode cX5_read 11 = .ok (.ireturn, 1) := by decide +kernel
theorem dX5_read_12 : decode cX5_read 12 = .ok (.aload_n 0, 1) := by decide +kernel
theorem dX5_read_13 : decode cX5_read 13 = .ok (.getfield 7, 3) := by decide +kernel
theorem dX5_read_16 : decode cX5_read 16 = .ok (.iconst 3, 1) := by decide +kernel
theorem dX5_read_17 : decode cX5_read 17 = .ok (.iaload, 1) := by decide +kernel
theorem dX5_read_18 : decode cX5_read 18 = .ok (.aload_n 0, 1) := by decide +kernel
theorem dX5_read_19 : decode cX5_read 19 = .ok (.getfield 141, 3) := by decide +kernel
theorem dX5_read_22 : decode cX5_read 22 = .ok (.iadd, 1) := by decide +kernel
theorem dX5_read_23 : decode cX5_read 23 = .ok (.bipush 24, 2) := by decide +kernel
theorem dX5_read_25 : decode cX5_read 25 = .ok (.if_icmp .le 6, 3) := by decide +kernel
theorem dX5_read_28 : decode cX5_read 28 = .ok (.ldc 131, 2) := by decide +kernel
theorem dX5_read_30 : decode cX5_read 30 = .ok (.ireturn, 1) := by decide +kernel
theorem dX5_read_31 : decode cX5_read 31 = .ok (.aload_n 0, 1) := by decide +kernel
theorem dX5_read_32 : decode cX5_read 32 = .ok (.invokevirtual 122, 3) := by decide +kernel
theorem dX5_read_35 : decode cX5_read 35 = .ok (.iconst 0, 1) := by decide +kernel
theorem dX5_read_36 : decode cX5_read 36 = .ok (.istore_n 1, 1) := by decide +kernel
theorem dX5_read_37 : decode cX5_read 37 = .ok (.iload_n 1, 1) := by decide +kernel
theorem dX5_read_38 : decode cX5_read 38 = .ok (.aload_n 0, 1) := by decide +kernel
theorem dX5_read_39 : decode cX5_read 39 = .ok (.getfield 141, 3) := by decide +kernel
theorem dX5_read_42 : decode cX5_read 42 = .ok (.if_icmp .ge 25, 3) := by decide +kernel
theorem dX5_read_45 : decode cX5_read 45 = .ok (.aload_n 0, 1) := by decide +kernel
theorem dX5_read_46 : decode cX5_read 46 = .ok (.aload_n 0, 1) := by decide +kernel
theorem dX5_read_47 : decode cX5_read 47 = .ok (.getfield 37, 3) := by decide +kernel
theorem dX5_read_50 : decode cX5_read 50 = .ok (.iload_n 1, 1) := by decide +kernel
theorem dX5_read_51 : decode cX5_read 51 = .ok (.iaload, 1) := by decide +kernel
theorem dX5_read_52 : decode cX5_read 52 = .ok (.aload_n 0, 1) := by decide +kernel
theorem dX5_read_53 : decode cX5_read 53 = .ok (.getfield 40, 3) := by decide +kernel
theorem dX5_read_56 : decode cX5_read 56 = .ok (.iload_n 1, 1) := by decide +kernel
theorem dX5_read_57 : decode cX5_read 57 = .ok (.iaload, 1) := by decide +kernel
theorem dX5_read_58 : decode cX5_read 58 = .ok (.invokevirtual 132, 3) := by decide +kernel
theorem dX5_read_61 : decode cX5_read 61 = .ok (.iinc 1 1, 3) := by decide +kernel
theorem dX5_read_64 : decode cX5_read 64 = .ok (.goto (-27), 3) := by decide +kernel
theorem dX5_read_67 : decode cX5_read 67 = .ok (.aload_n 0, 1) := by decide +kernel
theorem dX5_read_68 : decode cX5_read 68 = .ok (.iconst 0, 1) := by decide +kernel
theorem dX5_read_69 : decode cX5_read 69 = .ok (.putfield 144, 3) := by decide +kernel
theorem dX5_read_72 : decode cX5_read 72 = .ok (.aload_n 0, 1) := by decide +kernel
theorem dX5_read_73 : decode cX5_read 73 = .ok (.getfield 7, 3) := by decide +kernel
theorem dX5_read_76 : decode cX5_read 76 = .ok (.iconst 3, 1) := by decide +kernel
theorem dX5_read_77 : decode cX5_read 77 = .ok (.iaload, 1) := by decide +kernel
theorem dX5_read_78 : decode cX5_read 78 = .ok (.ireturn, 1) := by decide +kernel
theorem dX5_hush_0 : decode cX5_hush 0 = .ok (.aload_n 0, 1) := by decide +kernel
theorem dX5_hush_1 : decode cX5_hush 1 = .ok (.invokevirtual 122, 3) := by decide +kernel
theorem dX5_hush_4 : decode cX5_hush 4 = .ok (.aload_n 0, 1) := by decide +kernel
theorem dX5_hush_5 : decode cX5_hush 5 = .ok (.getfield 7, 3) := by decide +kernel
theorem dX5_hush_8 : decode cX5_hush 8 = .ok (.iconst 3, 1) := by decide +kernel
theorem dX5_hush_9 : decode cX5_hush 9 = .ok (.iaload, 1) := by decide +kernel
theorem dX5_hush_10 : decode cX5_hush 10 = .ok (.istore_n 1, 1) := by decide +kernel
theorem dX5_hush_11 : decode cX5_hush 11 = .ok (.aload_n 0, 1) := by decide +kernel
theorem dX5_hush_12 : decode cX5_hush 12 = .ok (.invokevirtual 113, 3) := by decide +kernel
theorem dX5_hush_15 : decode cX5_hush 15 = .ok (.iload_n 1, 1) := by decide +kernel
theorem dX5_hush_16 : decode cX5_hush 16 = .ok (.ireturn, 1) := by decide +kernel
theorem dX5_give_0 : decode cX5_give 0 = .ok (.aload_n 0, 1) := by decide +kernel
theorem dX5_give_1 : decode cX5_give 1 = .ok (.invokevirtual 147, 3) := by decide +kernel
theorem dX5_give_4 : decode cX5_give 4 = .ok (.ifCond .ne 6, 3) := by decide +kernel
theorem dX5_give_7 : decode cX5_give 7 = .ok (.ldc 136, 2) := by decide +kernel
theorem dX5_give_9 : decode cX5_give 9 = .ok (.ireturn, 1) := by decide +kernel
theorem dX5_give_10 : decode cX5_give 10 = .ok (.aload_n 0, 1) := by decide +kernel
theorem dX5_give_11 : decode cX5_give 11 = .ok (.invokevirtual 122, 3) := by decide +kernel
theorem dX5_give_14 : decode cX5_give 14 = .ok (.aload_n 0, 1) := by decide +kernel
theorem dX5_give_15 : decode cX5_give 15 = .ok (.invokevirtual 150, 3) := by decide +kernel
theorem dX5_give_18 : decode cX5_give 18 = .ok (.ireturn, 1) := by decide +kernel
theorem dX5_flourishes_0 : decode cX5_flourishes 0 = .ok (.iconst 0, 1) := by decide +kernel
theorem dX5_flourishes_1 : decode cX5_flourishes 1 = .ok (.istore_n 1, 1) := by decide +kernel
theorem dX5_flourishes_2 : decode cX5_flourishes 2 = .ok (.iconst 0, 1) := by decide +kernel
theorem dX5_flourishes_3 : decode cX5_flourishes 3 = .ok (.istore_n 2, 1) := by decide +kernel
theorem dX5_flourishes_4 : decode cX5_flourishes 4 = .ok (.iload_n 2, 1) := by decide +kernel
theorem dX5_flourishes_5 : decode cX5_flourishes 5 = .ok (.aload_n 0, 1) := by decide +kernel
theorem dX5_flourishes_6 : decode cX5_flourishes 6 = .ok (.getfield 59, 3) := by decide +kernel
theorem dX5_flourishes_9 : decode cX5_flourishes 9 = .ok (.if_icmp .ge 29, 3) := by decide +kernel
theorem dX5_flourishes_12 : decode cX5_flourishes 12 = .ok (.iload_n 1, 1) := by decide +kernel
theorem dX5_flourishes_13 : decode cX5_flourishes 13 = .ok (.aload_n 0, 1) := by decide +kernel
theorem dX5_flourishes_14 : decode cX5_flourishes 14 = .ok (.getfield 25, 3) := by decide +kernel
theorem dX5_flourishes_17 : decode cX5_flourishes 17 = .ok (.iload_n 2, 1) := by decide +kernel
theorem dX5_flourishes_18 : decode cX5_flourishes 18 = .ok (.iaload, 1) := by decide +kernel
theorem dX5_flourishes_19 : decode cX5_flourishes 19 = .ok (.invokestatic 74, 3) := by decide +kernel
theorem dX5_flourishes_22 : decode cX5_flourishes 22 = .ok (.ifCond .eq 7, 3) := by decide +kernel
theorem dX5_flourishes_25 : decode cX5_flourishes 25 = .ok (.iconst 1, 1) := by decide +kernel
theorem dX5_flourishes_26 : decode cX5_flourishes 26 = .ok (.goto 4, 3) := by decide +kernel
theorem dX5_flourishes_29 : decode cX5_flourishes 29 = .ok (.iconst 0, 1) := by decide +kernel
theorem dX5_flourishes_30 : decode cX5_flourishes 30 = .ok (.iadd, 1) := by decide +kernel
theorem dX5_flourishes_31 : decode cX5_flourishes 31 = .ok (.istore_n 1, 1) := by decide +kernel
theorem dX5_flourishes_32 : decode cX5_flourishes 32 = .ok (.iinc 2 1, 3) := by decide +kernel
theorem dX5_flourishes_35 : decode cX5_flourishes 35 = .ok (.goto (-31), 3) := by decide +kernel
theorem dX5_flourishes_38 : decode cX5_flourishes 38 = .ok (.iload_n 1, 1) := by decide +kernel
theorem dX5_flourishes_39 : decode cX5_flourishes 39 = .ok (.ireturn, 1) := by decide +kernel
theorem dX5_speech_0 : decode cX5_speech 0 = .ok (.iload_n 1, 1) := by decide +kernel
theorem dX5_speech_1 : decode cX5_speech 1 = .ok (.invokestatic 126, 3) := by decide +kernel
theorem dX5_speech_4 : decode cX5_speech 4 = .ok (.ifCond .eq 15, 3) := by decide +kernel
theorem dX5_speech_7 : decode cX5_speech 7 = .ok (.iload_n 2, 1) := by decide +kernel
theorem dX5_speech_8 : decode cX5_speech 8 = .ok (.i2l, 1) := by decide +kernel
theorem dX5_speech_9 : decode cX5_speech 9 = .ok (.lconst 0, 1) := by decide +kernel
theorem dX5_speech_10 : decode cX5_speech 10 = .ok (.ldc2_w 129, 3) := by decide +kernel
theorem dX5_speech_13 : decode cX5_speech 13 = .ok (.invokestatic 49, 3) := by decide +kernel
theorem dX5_speech_16 : decode cX5_speech 16 = .ok (.ifCond .ne 6, 3) := by decide +kernel
theorem dX5_speech_19 : decode cX5_speech 19 = .ok (.ldc 121, 2) := by decide +kernel
theorem dX5_speech_21 : decode cX5_speech 21 = .ok (.ireturn, 1) := by decide +kernel
theorem dX5_speech_22 : decode cX5_speech 22 = .ok (.aload_n 0, 1) := by decide +kernel
theorem dX5_speech_23 : decode cX5_speech 23 = .ok (.iload_n 1, 1) := by decide +kernel
theorem dX5_speech_24 : decode cX5_speech 24 = .ok (.invokevirtual 102, 3) := by decide +kernel
theorem dX5_speech_27 : decode cX5_speech 27 = .ok (.istore_n 3, 1) := by decide +kernel
theorem dX5_speech_28 : decode cX5_speech 28 = .ok (.iload_n 2, 1) := by decide +kernel
theorem dX5_speech_29 : decode cX5_speech 29 = .ok (.ifCond .ne 10, 3) := by decide +kernel
theorem dX5_speech_32 : decode cX5_speech 32 = .ok (.aload_n 0, 1) := by decide +kernel
theorem dX5_speech_33 : decode cX5_speech 33 = .ok (.getfield 59, 3) := by decide +kernel
theorem dX5_speech_36 : decode cX5_speech 36 = .ok (.goto 28, 3) := by decide +kernel
theorem dX5_speech_39 : decode cX5_speech 39 = .ok (.iload_n 2, 1) := by decide +kernel
theorem dX5_speech_40 : decode cX5_speech 40 = .ok (.iconst 1, 1) := by decide +kernel
theorem dX5_speech_41 : decode cX5_speech 41 = .ok (.if_icmp .ne 10, 3) := by decide +kernel
theorem dX5_speech_44 : decode cX5_speech 44 = .ok (.aload_n 0, 1) := by decide +kernel
theorem dX5_speech_45 : decode cX5_speech 45 = .ok (.invokevirtual 95, 3) := by decide +kernel
theorem dX5_speech_48 : decode cX5_speech 48 = .ok (.goto 16, 3) := by decide +kernel
theorem dX5_speech_51 : decode cX5_speech 51 = .ok (.iload_n 2, 1) := by decide +kernel
theorem dX5_speech_52 : decode cX5_speech 52 = .ok (.iconst 2, 1) := by decide +kernel
theorem dX5_speech_53 : decode cX5_speech 53 = .ok (.if_icmp .ne 7, 3) := by decide +kernel
theorem dX5_speech_56 : decode cX5_speech 56 = .ok (.iload_n 3, 1) := by decide +kernel
theorem dX5_speech_57 : decode cX5_speech 57 = .ok (.goto 7, 3) := by decide +kernel
theorem dX5_speech_60 : decode cX5_speech 60 = .ok (.aload_n 0, 1) := by decide +kernel
theorem dX5_speech_61 : decode cX5_speech 61 = .ok (.invokevirtual 153, 3) := by decide +kernel
theorem dX5_speech_64 : decode cX5_speech 64 = .ok (.ireturn, 1) := by decide +kernel
theorem dX5_word_0 : decode cX5_word 0 = .ok (.iload_n 1, 1) := by decide +kernel
theorem dX5_word_1 : decode cX5_word 1 = .ok (.invokestatic 126, 3) := by decide +kernel
theorem dX5_word_4 : decode cX5_word 4 = .ok (.ifCond .ne 6, 3) := by decide +kernel
theorem dX5_word_7 : decode cX5_word 7 = .ok (.ldc 121, 2) := by decide +kernel
theorem dX5_word_9 : decode cX5_word 9 = .ok (.ireturn, 1) := by decide +kernel
theorem dX5_word_10 : decode cX5_word 10 = .ok (.aload_n 0, 1) := by decide +kernel
theorem dX5_word_11 : decode cX5_word 11 = .ok (.iload_n 1, 1) := by decide +kernel
theorem dX5_word_12 : decode cX5_word 12 = .ok (.invokevirtual 91, 3) := by decide +kernel
theorem dX5_word_15 : decode cX5_word 15 = .ok (.iload_n 2, 1) := by decide +kernel
theorem dX5_word_16 : decode cX5_word 16 = .ok (.i2l, 1) := by decide +kernel
theorem dX5_word_17 : decode cX5_word 17 = .ok (.lconst 0, 1) := by decide +kernel
theorem dX5_word_18 : decode cX5_word 18 = .ok (.aload_n 0, 1) := by decide +kernel
theorem dX5_word_19 : decode cX5_word 19 = .ok (.getfield 59, 3) := by decide +kernel
theorem dX5_word_22 : decode cX5_word 22 = .ok (.i2l, 1) := by decide +kernel
theorem dX5_word_23 : decode cX5_word 23 = .ok (.lconst 1, 1) := by decide +kernel
theorem dX5_word_24 : decode cX5_word 24 = .ok (.lsub, 1) := by decide +kernel
theorem dX5_word_25 : decode cX5_word 25 = .ok (.invokestatic 49, 3) := by decide +kernel
theorem dX5_word_28 : decode cX5_word 28 = .ok (.ifCond .eq 12, 3) := by decide +kernel
theorem dX5_word_31 : decode cX5_word 31 = .ok (.aload_n 0, 1) := by decide +kernel
theorem dX5_word_32 : decode cX5_word 32 = .ok (.getfield 25, 3) := by decide +kernel
theorem dX5_word_35 : decode cX5_word 35 = .ok (.iload_n 2, 1) := by decide +kernel
theorem dX5_word_36 : decode cX5_word 36 = .ok (.iaload, 1) := by decide +kernel
theorem dX5_word_37 : decode cX5_word 37 = .ok (.goto 5, 3) := by decide +kernel
theorem dX5_word_40 : decode cX5_word 40 = .ok (.ldc 125, 2) := by decide +kernel
theorem dX5_word_42 : decode cX5_word 42 = .ok (.ireturn, 1) := by decide +kernel
theorem dX5_sentence_0 : decode cX5_sentence 0 = .ok (.iload_n 1, 1) := by decide +kernel
theorem dX5_sentence_1 : decode cX5_sentence 1 = .ok (.invokestatic 126, 3) := by decide +kernel
theorem dX5_sentence_4 : decode cX5_sentence 4 = .ok (.ifCond .eq 15, 3) := by decide +kernel
theorem dX5_sentence_7 : decode cX5_sentence 7 = .ok (.iload_n 3, 1) := by decide +kernel
theorem dX5_sentence_8 : decode cX5_sentence 8 = .ok (.i2l, 1) := by decide +kernel
theorem dX5_sentence_9 : decode cX5_sentence 9 = .ok (.lconst 0, 1) := by decide +kernel
theorem dX5_sentence_10 : decode cX5_sentence 10 = .ok (.ldc2_w 129, 3) := by decide +kernel
theorem dX5_sentence_13 : decode cX5_sentence 13 = .ok (.invokestatic 49, 3) := by decide +kernel
theorem dX5_sentence_16 : decode cX5_sentence 16 = .ok (.ifCond .ne 6, 3) := by decide +kernel
theorem dX5_sentence_19 : decode cX5_sentence 19 = .ok (.ldc 121, 2) := by decide +kernel
theorem dX5_sentence_21 : decode cX5_sentence 21 = .ok (.ireturn, 1) := by decide +kernel
theorem dX5_sentence_22 : decode cX5_sentence 22 = .ok (.aload_n 0, 1) := by decide +kernel
theorem dX5_sentence_23 : decode cX5_sentence 23 = .ok (.iload_n 1, 1) := by decide +kernel
theorem dX5_sentence_24 : decode cX5_sentence 24 = .ok (.invokevirtual 102, 3) := by decide +kernel
theorem dX5_sentence_27 : decode cX5_sentence 27 = .ok (.istore 4, 2) := by decide +kernel
theorem dX5_sentence_29 : decode cX5_sentence 29 = .ok (.iload_n 2, 1) := by decide +kernel
theorem dX5_sentence_30 : decode cX5_sentence 30 = .ok (.i2l, 1) := by decide +kernel
theorem dX5_sentence_31 : decode cX5_sentence 31 = .ok (.lconst 0, 1) := by decide +kernel
theorem dX5_sentence_32 : decode cX5_sentence 32 = .ok (.iload 4, 2) := by decide +kernel
theorem dX5_sentence_34 : decode cX5_sentence 34 = .ok (.i2l, 1) := by decide +kernel
theorem dX5_sentence_35 : decode cX5_sentence 35 = .ok (.lconst 1, 1) := by decide +kernel
theorem dX5_sentence_36 : decode cX5_sentence 36 = .ok (.lsub, 1) := by decide +kernel
theorem dX5_sentence_37 : decode cX5_sentence 37 = .ok (.invokestatic 49, 3) := by decide +kernel
theorem dX5_sentence_40 : decode cX5_sentence 40 = .ok (.ifCond .ne 6, 3) := by decide +kernel
theorem dX5_sentence_43 : decode cX5_sentence 43 = .ok (.ldc 125, 2) := by decide +kernel
theorem dX5_sentence_45 : decode cX5_sentence 45 = .ok (.ireturn, 1) := by decide +kernel
theorem dX5_sentence_46 : decode cX5_sentence 46 = .ok (.iload_n 3, 1) := by decide +kernel
theorem dX5_sentence_47 : decode cX5_sentence 47 = .ok (.iconst 3, 1) := by decide +kernel
theorem dX5_sentence_48 : decode cX5_sentence 48 = .ok (.if_icmp .ne 20, 3) := by decide +kernel
theorem dX5_sentence_51 : decode cX5_sentence 51 = .ok (.iconst 1, 1) := by decide +kernel
theorem dX5_sentence_52 : decode cX5_sentence 52 = .ok (.aload_n 0, 1) := by decide +kernel
theorem dX5_sentence_53 : decode cX5_sentence 53 = .ok (.getfield 28, 3) := by decide +kernel
theorem dX5_sentence_56 : decode cX5_sentence 56 = .ok (.iconst 3, 1) := by decide +kernel
theorem dX5_sentence_57 : decode cX5_sentence 57 = .ok (.iload_n 2, 1) := by decide +kernel
theorem dX5_sentence_58 : decode cX5_sentence 58 = .ok (.imul, 1) := by decide +kernel
theorem dX5_sentence_59 : decode cX5_sentence 59 = .ok (.iconst 1, 1) := by decide +kernel
theorem dX5_sentence_60 : decode cX5_sentence 60 = .ok (.iadd, 1) := by decide +kernel
theorem dX5_sentence_61 : decode cX5_sentence 61 = .ok (.iaload, 1) := by decide +kernel
theorem dX5_sentence_62 : decode cX5_sentence 62 = .ok (.iconst 2, 1) := by decide +kernel
theorem dX5_sentence_63 : decode cX5_sentence 63 = .ok (.irem, 1) := by decide +kernel
theorem dX5_sentence_64 : decode cX5_sentence 64 = .ok (.isub, 1) := by decide +kernel
theorem dX5_sentence_65 : decode cX5_sentence 65 = .ok (.goto 13, 3) := by decide +kernel
theorem dX5_sentence_68 : decode cX5_sentence 68 = .ok (.aload_n 0, 1) := by decide +kernel
theorem dX5_sentence_69 : decode cX5_sentence 69 = .ok (.getfield 28, 3) := by decide +kernel
theorem dX5_sentence_72 : decode cX5_sentence 72 = .ok (.iconst 3, 1) := by decide +kernel
theorem dX5_sentence_73 : decode cX5_sentence 73 = .ok (.iload_n 2, 1) := by decide +kernel
theorem dX5_sentence_74 : decode cX5_sentence 74 = .ok (.imul, 1) := by decide +kernel
theorem dX5_sentence_75 : decode cX5_sentence 75 = .ok (.iload_n 3, 1) := by decide +kernel
theorem dX5_sentence_76 : decode cX5_sentence 76 = .ok (.iadd, 1) := by decide +kernel
theorem dX5_sentence_77 : decode cX5_sentence 77 = .ok (.iaload, 1) := by decide +kernel
theorem dX5_sentence_78 : decode cX5_sentence 78 = .ok (.ireturn, 1) := by decide +kernel
theorem dX5_favour_0 : decode cX5_favour 0 = .ok (.iload_n 1, 1) := by decide +kernel
theorem dX5_favour_1 : decode cX5_favour 1 = .ok (.invokestatic 78, 3) := by decide +kernel
theorem dX5_favour_4 : decode cX5_favour 4 = .ok (.ifCond .eq 23, 3) := by decide +kernel
theorem dX5_favour_7 : decode cX5_favour 7 = .ok (.iload_n 2, 1) := by decide +kernel
theorem dX5_favour_8 : decode cX5_favour 8 = .ok (.invokestatic 78, 3) := by decide +kernel
theorem dX5_favour_11 : decode cX5_favour 11 = .ok (.ifCond .eq 16, 3) := by decide +kernel
theorem dX5_favour_14 : decode cX5_favour 14 = .ok (.aload_n 0, 1) := by decide +kernel
theorem dX5_favour_15 : decode cX5_favour 15 = .ok (.getfield 7, 3) := by decide +kernel
theorem dX5_favour_18 : decode cX5_favour 18 = .ok (.iload_n 1, 1) := by decide +kernel
theorem dX5_favour_19 : decode cX5_favour 19 = .ok (.iload_n 2, 1) := by decide +kernel
theorem dX5_favour_20 : decode cX5_favour 20 = .ok (.invokestatic 99, 3) := by decide +kernel
theorem dX5_favour_23 : decode cX5_favour 23 = .ok (.iaload, 1) := by decide +kernel
theorem dX5_favour_24 : decode cX5_favour 24 = .ok (.goto 5, 3) := by decide +kernel
theorem dX5_favour_27 : decode cX5_favour 27 = .ok (.ldc 125, 2) := by decide +kernel
theorem dX5_favour_29 : decode cX5_favour 29 = .ok (.ireturn, 1) := by decide +kernel
theorem dX5_seesOthers_0 : decode cX5_seesOthers 0 = .ok (.aload_n 0, 1) := by decide +kernel
theorem dX5_seesOthers_1 : decode cX5_seesOthers 1 = .ok (.iconst 0, 1) := by decide +kernel
theorem dX5_seesOthers_2 : decode cX5_seesOthers 2 = .ok (.invokevirtual 102, 3) := by decide +kernel
theorem dX5_seesOthers_5 : decode cX5_seesOthers 5 = .ok (.istore_n 2, 1) := by decide +kernel
theorem dX5_seesOthers_6 : decode cX5_seesOthers 6 = .ok (.iconst 0, 1) := by decide +kernel
theorem dX5_seesOthers_7 : decode cX5_seesOthers 7 = .ok (.istore_n 3, 1) := by decide +kernel
theorem dX5_seesOthers_8 : decode cX5_seesOthers 8 = .ok (.iload_n 3, 1) := by decide +kernel
theorem dX5_seesOthers_9 : decode cX5_seesOthers 9 = .ok (.iconst 3, 1) := by decide +kernel
theorem dX5_seesOthers_10 : decode cX5_seesOthers 10 = .ok (.iload_n 2, 1) := by decide +kernel
theorem dX5_seesOthers_11 : decode cX5_seesOthers 11 = .ok (.imul, 1) := by decide +kernel
theorem dX5_seesOthers_12 : decode cX5_seesOthers 12 = .ok (.if_icmp .ge 21, 3) := by decide +kernel
theorem dX5_seesOthers_15 : decode cX5_seesOthers 15 = .ok (.aload_n 0, 1) := by decide +kernel
theorem dX5_seesOthers_16 : decode cX5_seesOthers 16 = .ok (.getfield 31, 3) := by decide +kernel
theorem dX5_seesOthers_19 : decode cX5_seesOthers 19 = .ok (.iload_n 3, 1) := by decide +kernel
theorem dX5_seesOthers_20 : decode cX5_seesOthers 20 = .ok (.aload_n 0, 1) := by decide +kernel
theorem dX5_seesOthers_21 : decode cX5_seesOthers 21 = .ok (.getfield 28, 3) := by decide +kernel
theorem dX5_seesOthers_24 : decode cX5_seesOthers 24 = .ok (.iload_n 3, 1) := by decide +kernel
theorem dX5_seesOthers_25 : decode cX5_seesOthers 25 = .ok (.iaload, 1) := by decide +kernel
theorem dX5_seesOthers_26 : decode cX5_seesOthers 26 = .ok (.iastore, 1) := by decide +kernel
theorem dX5_seesOthers_27 : decode cX5_seesOthers 27 = .ok (.iinc 3 1, 3) := by decide +kernel
theorem dX5_seesOthers_30 : decode cX5_seesOthers 30 = .ok (.goto (-22), 3) := by decide +kernel
theorem dX5_seesOthers_33 : decode cX5_seesOthers 33 = .ok (.aload_n 0, 1) := by decide +kernel
theorem dX5_seesOthers_34 : decode cX5_seesOthers 34 = .ok (.iload_n 1, 1) := by decide +kernel
theorem dX5_seesOthers_35 : decode cX5_seesOthers 35 = .ok (.invokevirtual 102, 3) := by decide +kernel
theorem dX5_seesOthers_38 : decode cX5_seesOthers 38 = .ok (.iload_n 2, 1) := by decide +kernel
theorem dX5_seesOthers_39 : decode cX5_seesOthers 39 = .ok (.if_icmp .eq 7, 3) := by decide +kernel
theorem dX5_seesOthers_42 : decode cX5_seesOthers 42 = .ok (.iconst 1, 1) := by decide +kernel
theorem dX5_seesOthers_43 : decode cX5_seesOthers 43 = .ok (.goto 4, 3) := by decide +kernel
theorem dX5_seesOthers_46 : decode cX5_seesOthers 46 = .ok (.iconst 0, 1) := by decide +kernel
theorem dX5_seesOthers_47 : decode cX5_seesOthers 47 = .ok (.istore_n 3, 1) := by decide +kernel
theorem dX5_seesOthers_48 : decode cX5_seesOthers 48 = .ok (.iconst 0, 1) := by decide +kernel
theorem dX5_seesOthers_49 : decode cX5_seesOthers 49 = .ok (.istore 4, 2) := by decide +kernel
theorem dX5_seesOthers_51 : decode cX5_seesOthers 51 = .ok (.iload 4, 2) := by decide +kernel
theorem dX5_seesOthers_53 : decode cX5_seesOthers 53 = .ok (.iconst 3, 1) := by decide +kernel
theorem dX5_seesOthers_54 : decode cX5_seesOthers 54 = .ok (.iload_n 2, 1) := by decide +kernel
theorem dX5_seesOthers_55 : decode cX5_seesOthers 55 = .ok (.imul, 1) := by decide +kernel
theorem dX5_seesOthers_56 : decode cX5_seesOthers 56 = .ok (.if_icmp .ge 36, 3) := by decide +kernel
theorem dX5_seesOthers_59 : decode cX5_seesOthers 59 = .ok (.iload_n 3, 1) := by decide +kernel
theorem dX5_seesOthers_60 : decode cX5_seesOthers 60 = .ok (.ifCond .ne 32, 3) := by decide +kernel
theorem dX5_seesOthers_63 : decode cX5_seesOthers 63 = .ok (.aload_n 0, 1) := by decide +kernel
theorem dX5_seesOthers_64 : decode cX5_seesOthers 64 = .ok (.getfield 31, 3) := by decide +kernel
theorem dX5_seesOthers_67 : decode cX5_seesOthers 67 = .ok (.iload 4, 2) := by decide +kernel
theorem dX5_seesOthers_69 : decode cX5_seesOthers 69 = .ok (.iaload, 1) := by decide +kernel
theorem dX5_seesOthers_70 : decode cX5_seesOthers 70 = .ok (.aload_n 0, 1) := by decide +kernel
theorem dX5_seesOthers_71 : decode cX5_seesOthers 71 = .ok (.getfield 28, 3) := by decide +kernel
theorem dX5_seesOthers_74 : decode cX5_seesOthers 74 = .ok (.iload 4, 2) := by decide +kernel
theorem dX5_seesOthers_76 : decode cX5_seesOthers 76 = .ok (.iaload, 1) := by decide +kernel
theorem dX5_seesOthers_77 : decode cX5_seesOthers 77 = .ok (.if_icmp .eq 7, 3) := by decide +kernel
theorem dX5_seesOthers_80 : decode cX5_seesOthers 80 = .ok (.iconst 1, 1) := by decide +kernel
theorem dX5_seesOthers_81 : decode cX5_seesOthers 81 = .ok (.goto 4, 3) := by decide +kernel
theorem dX5_seesOthers_84 : decode cX5_seesOthers 84 = .ok (.iconst 0, 1) := by decide +kernel
theorem dX5_seesOthers_85 : decode cX5_seesOthers 85 = .ok (.istore_n 3, 1) := by decide +kernel
theorem dX5_seesOthers_86 : decode cX5_seesOthers 86 = .ok (.iinc 4 1, 3) := by decide +kernel
theorem dX5_seesOthers_89 : decode cX5_seesOthers 89 = .ok (.goto (-38), 3) := by decide +kernel
theorem dX5_seesOthers_92 : decode cX5_seesOthers 92 = .ok (.iload_n 3, 1) := by decide +kernel
theorem dX5_seesOthers_93 : decode cX5_seesOthers 93 = .ok (.ireturn, 1) := by decide +kernel
theorem dX5_favours_0 : decode cX5_favours 0 = .ok (.iconst 0, 1) := by decide +kernel
theorem dX5_favours_1 : decode cX5_favours 1 = .ok (.istore_n 3, 1) := by decide +kernel
theorem dX5_favours_2 : decode cX5_favours 2 = .ok (.iconst 0, 1) := by decide +kernel
theorem dX5_favours_3 : decode cX5_favours 3 = .ok (.istore 4, 2) := by decide +kernel
theorem dX5_favours_5 : decode cX5_favours 5 = .ok (.iload 4, 2) := by decide +kernel
theorem dX5_favours_7 : decode cX5_favours 7 = .ok (.bipush 36, 2) := by decide +kernel
theorem dX5_favours_9 : decode cX5_favours 9 = .ok (.if_icmp .ge 52, 3) := by decide +kernel
theorem dX5_favours_12 : decode cX5_favours 12 = .ok (.iload_n 3, 1) := by decide +kernel
theorem dX5_favours_13 : decode cX5_favours 13 = .ok (.iload_n 1, 1) := by decide +kernel
theorem dX5_favours_14 : decode cX5_favours 14 = .ok (.ifCond .lt 12, 3) := by decide +kernel
theorem dX5_favours_17 : decode cX5_favours 17 = .ok (.iload 4, 2) := by decide +kernel
theorem dX5_favours_19 : decode cX5_favours 19 = .ok (.bipush 6, 2) := by decide +kernel
theorem dX5_favours_21 : decode cX5_favours 21 = .ok (.irem, 1) := by decide +kernel
theorem dX5_favours_22 : decode cX5_favours 22 = .ok (.iload_n 1, 1) := by decide +kernel
theorem dX5_favours_23 : decode cX5_favours 23 = .ok (.if_icmp .ne 29, 3) := by decide +kernel
theorem dX5_favours_26 : decode cX5_favours 26 = .ok (.iload_n 2, 1) := by decide +kernel
theorem dX5_favours_27 : decode cX5_favours 27 = .ok (.ifCond .lt 12, 3) := by decide +kernel
theorem dX5_favours_30 : decode cX5_favours 30 = .ok (.iload 4, 2) := by decide +kernel
theorem dX5_favours_32 : decode cX5_favours 32 = .ok (.bipush 6, 2) := by decide +kernel
theorem dX5_favours_34 : decode cX5_favours 34 = .ok (.idiv, 1) := by decide +kernel
theorem dX5_favours_35 : decode cX5_favours 35 = .ok (.iload_n 2, 1) := by decide +kernel
theorem dX5_favours_36 : decode cX5_favours 36 = .ok (.if_icmp .ne 16, 3) := by decide +kernel
theorem dX5_favours_39 : decode cX5_favours 39 = .ok (.aload_n 0, 1) := by decide +kernel
theorem dX5_favours_40 : decode cX5_favours 40 = .ok (.getfield 7, 3) := by decide +kernel
theorem dX5_favours_43 : decode cX5_favours 43 = .ok (.bipush 12, 2) := by decide +kernel
theorem dX5_favours_45 : decode cX5_favours 45 = .ok (.iload 4, 2) := by decide +kernel
theorem dX5_favours_47 : decode cX5_favours 47 = .ok (.iadd, 1) := by decide +kernel
theorem dX5_favours_48 : decode cX5_favours 48 = .ok (.iaload, 1) := by decide +kernel
theorem dX5_favours_49 : decode cX5_favours 49 = .ok (.goto 4, 3) := by decide +kernel
theorem dX5_favours_52 : decode cX5_favours 52 = .ok (.iconst 0, 1) := by decide +kernel
theorem dX5_favours_53 : decode cX5_favours 53 = .ok (.iadd, 1) := by decide +kernel
theorem dX5_favours_54 : decode cX5_favours 54 = .ok (.istore_n 3, 1) := by decide +kernel
theorem dX5_favours_55 : decode cX5_favours 55 = .ok (.iinc 4 1, 3) := by decide +kernel
theorem dX5_favours_58 : decode cX5_favours 58 = .ok (.goto (-53), 3) := by decide +kernel
theorem dX5_favours_61 : decode cX5_favours 61 = .ok (.iload_n 3, 1) := by decide +kernel
theorem dX5_favours_62 : decode cX5_favours 62 = .ok (.ireturn, 1) := by decide +kernel
theorem dX5_othersSeen_0 : decode cX5_othersSeen 0 = .ok (.iconst 0, 1) := by decide +kernel
theorem dX5_othersSeen_1 : decode cX5_othersSeen 1 = .ok (.istore_n 1, 1) := by decide +kernel
theorem dX5_othersSeen_2 : decode cX5_othersSeen 2 = .ok (.iconst 0, 1) := by decide +kernel
theorem dX5_othersSeen_3 : decode cX5_othersSeen 3 = .ok (.istore_n 2, 1) := by decide +kernel
theorem dX5_othersSeen_4 : decode cX5_othersSeen 4 = .ok (.iload_n 2, 1) := by decide +kernel
theorem dX5_othersSeen_5 : decode cX5_othersSeen 5 = .ok (.bipush 6, 2) := by decide +kernel
theorem dX5_othersSeen_7 : decode cX5_othersSeen 7 = .ok (.if_icmp .ge 33, 3) := by decide +kernel
theorem dX5_othersSeen_10 : decode cX5_othersSeen 10 = .ok (.iload_n 1, 1) := by decide +kernel
theorem dX5_othersSeen_11 : decode cX5_othersSeen 11 = .ok (.aload_n 0, 1) := by decide +kernel
theorem dX5_othersSeen_12 : decode cX5_othersSeen 12 = .ok (.aload_n 0, 1) := by decide +kernel
theorem dX5_othersSeen_13 : decode cX5_othersSeen 13 = .ok (.getfield 7, 3) := by decide +kernel
theorem dX5_othersSeen_16 : decode cX5_othersSeen 16 = .ok (.bipush 6, 2) := by decide +kernel
theorem dX5_othersSeen_18 : decode cX5_othersSeen 18 = .ok (.iload_n 2, 1) := by decide +kernel
theorem dX5_othersSeen_19 : decode cX5_othersSeen 19 = .ok (.iadd, 1) := by decide +kernel
theorem dX5_othersSeen_20 : decode cX5_othersSeen 20 = .ok (.iaload, 1) := by decide +kernel
theorem dX5_othersSeen_21 : decode cX5_othersSeen 21 = .ok (.invokevirtual 156, 3) := by decide +kernel
theorem dX5_othersSeen_24 : decode cX5_othersSeen 24 = .ok (.ifCond .eq 7, 3) := by decide +kernel
theorem dX5_othersSeen_27 : decode cX5_othersSeen 27 = .ok (.iconst 1, 1) := by decide +kernel
theorem dX5_othersSeen_28 : decode cX5_othersSeen 28 = .ok (.goto 4, 3) := by decide +kernel
theorem dX5_othersSeen_31 : decode cX5_othersSeen 31 = .ok (.iconst 0, 1) := by decide +kernel
theorem dX5_othersSeen_32 : decode cX5_othersSeen 32 = .ok (.iadd, 1) := by decide +kernel
theorem dX5_othersSeen_33 : decode cX5_othersSeen 33 = .ok (.istore_n 1, 1) := by decide +kernel
theorem dX5_othersSeen_34 : decode cX5_othersSeen 34 = .ok (.iinc 2 1, 3) := by decide +kernel
theorem dX5_othersSeen_37 : decode cX5_othersSeen 37 = .ok (.goto (-33), 3) := by decide +kernel
theorem dX5_othersSeen_40 : decode cX5_othersSeen 40 = .ok (.iload_n 1, 1) := by decide +kernel
theorem dX5_othersSeen_41 : decode cX5_othersSeen 41 = .ok (.ireturn, 1) := by decide +kernel
theorem dX5_count_0 : decode cX5_count 0 = .ok (.iload_n 1, 1) := by decide +kernel
theorem dX5_count_1 : decode cX5_count 1 = .ok (.tableswitch 53 6 9 #[31, 36, 43, 48], 31) := by decide +kernel
theorem dX5_count_32 : decode cX5_count 32 = .ok (.aload_n 0, 1) := by decide +kernel
theorem dX5_count_33 : decode cX5_count 33 = .ok (.invokevirtual 159, 3) := by decide +kernel
theorem dX5_count_36 : decode cX5_count 36 = .ok (.ireturn, 1) := by decide +kernel
theorem dX5_count_37 : decode cX5_count 37 = .ok (.aload_n 0, 1) := by decide +kernel
theorem dX5_count_38 : decode cX5_count 38 = .ok (.iconst (-1), 1) := by decide +kernel
theorem dX5_count_39 : decode cX5_count 39 = .ok (.iconst (-1), 1) := by decide +kernel
theorem dX5_count_40 : decode cX5_count 40 = .ok (.invokevirtual 162, 3) := by decide +kernel
theorem dX5_count_43 : decode cX5_count 43 = .ok (.ireturn, 1) := by decide +kernel
theorem dX5_count_44 : decode cX5_count 44 = .ok (.aload_n 0, 1) := by decide +kernel
theorem dX5_count_45 : decode cX5_count 45 = .ok (.getfield 144, 3) := by decide +kernel
theorem dX5_count_48 : decode cX5_count 48 = .ok (.ireturn, 1) := by decide +kernel
theorem dX5_count_49 : decode cX5_count 49 = .ok (.aload_n 0, 1) := by decide +kernel
theorem dX5_count_50 : decode cX5_count 50 = .ok (.getfield 43, 3) := by decide +kernel
theorem dX5_count_53 : decode cX5_count 53 = .ok (.ireturn, 1) := by decide +kernel
theorem dX5_count_54 : decode cX5_count 54 = .ok (.iload_n 1, 1) := by decide +kernel
theorem dX5_count_55 : decode cX5_count 55 = .ok (.i2l, 1) := by decide +kernel
theorem dX5_count_56 : decode cX5_count 56 = .ok (.lconst 0, 1) := by decide +kernel
theorem dX5_count_57 : decode cX5_count 57 = .ok (.ldc2_w 53, 3) := by decide +kernel
theorem dX5_count_60 : decode cX5_count 60 = .ok (.invokestatic 49, 3) := by decide +kernel
theorem dX5_count_63 : decode cX5_count 63 = .ok (.ifCond .eq 12, 3) := by decide +kernel
theorem dX5_count_66 : decode cX5_count 66 = .ok (.aload_n 0, 1) := by decide +kernel
theorem dX5_count_67 : decode cX5_count 67 = .ok (.getfield 7, 3) := by decide +kernel
theorem dX5_count_70 : decode cX5_count 70 = .ok (.iload_n 1, 1) := by decide +kernel
theorem dX5_count_71 : decode cX5_count 71 = .ok (.iaload, 1) := by decide +kernel
theorem dX5_count_72 : decode cX5_count 72 = .ok (.goto 5, 3) := by decide +kernel
theorem dX5_count_75 : decode cX5_count 75 = .ok (.ldc 121, 2) := by decide +kernel
theorem dX5_count_77 : decode cX5_count 77 = .ok (.ireturn, 1) := by decide +kernel
theorem dX5_wouldTake_0 : decode cX5_wouldTake 0 = .ok (.aload_n 0, 1) := by decide +kernel
theorem dX5_wouldTake_1 : decode cX5_wouldTake 1 = .ok (.invokevirtual 147, 3) := by decide +kernel
theorem dX5_wouldTake_4 : decode cX5_wouldTake 4 = .ok (.ifCond .ne 5, 3) := by decide +kernel
theorem dX5_wouldTake_7 : decode cX5_wouldTake 7 = .ok (.iconst 0, 1) := by decide +kernel
theorem dX5_wouldTake_8 : decode cX5_wouldTake 8 = .ok (.ireturn, 1) := by decide +kernel
theorem dX5_wouldTake_9 : decode cX5_wouldTake 9 = .ok (.aload_n 0, 1) := by decide +kernel
theorem dX5_wouldTake_10 : decode cX5_wouldTake 10 = .ok (.aload_n 0, 1) := by decide +kernel
theorem dX5_wouldTake_11 : decode cX5_wouldTake 11 = .ok (.getfield 7, 3) := by decide +kernel
theorem dX5_wouldTake_14 : decode cX5_wouldTake 14 = .ok (.bipush 6, 2) := by decide +kernel
theorem dX5_wouldTake_16 : decode cX5_wouldTake 16 = .ok (.iload_n 1, 1) := by decide +kernel
theorem dX5_wouldTake_17 : decode cX5_wouldTake 17 = .ok (.iadd, 1) := by decide +kernel
theorem dX5_wouldTake_18 : decode cX5_wouldTake 18 = .ok (.iaload, 1) := by decide +kernel
theorem dX5_wouldTake_19 : decode cX5_wouldTake 19 = .ok (.invokevirtual 102, 3) := by decide +kernel
theorem dX5_wouldTake_22 : decode cX5_wouldTake 22 = .ok (.istore_n 2, 1) := by decide +kernel
theorem dX5_wouldTake_23 : decode cX5_wouldTake 23 = .ok (.iconst 0, 1) := by decide +kernel
theorem dX5_wouldTake_24 : decode cX5_wouldTake 24 = .ok (.istore_n 3, 1) := by decide +kernel
theorem dX5_wouldTake_25 : decode cX5_wouldTake 25 = .ok (.iconst 0, 1) := by decide +kernel
theorem dX5_wouldTake_26 : decode cX5_wouldTake 26 = .ok (.istore 4, 2) := by decide +kernel
theorem dX5_wouldTake_28 : decode cX5_wouldTake 28 = .ok (.iload 4, 2) := by decide +kernel
theorem dX5_wouldTake_30 : decode cX5_wouldTake 30 = .ok (.iload_n 2, 1) := by decide +kernel
theorem dX5_wouldTake_31 : decode cX5_wouldTake 31 = .ok (.if_icmp .ge 30, 3) := by decide +kernel
theorem dX5_wouldTake_34 : decode cX5_wouldTake 34 = .ok (.iload_n 3, 1) := by decide +kernel
theorem dX5_wouldTake_35 : decode cX5_wouldTake 35 = .ok (.aload_n 0, 1) := by decide +kernel
theorem dX5_wouldTake_36 : decode cX5_wouldTake 36 = .ok (.getfield 28, 3) := by decide +kernel
theorem dX5_wouldTake_39 : decode cX5_wouldTake 39 = .ok (.iconst 3, 1) := by decide +kernel
theorem dX5_wouldTake_40 : decode cX5_wouldTake 40 = .ok (.iload 4, 2) := by decide +kernel
theorem dX5_wouldTake_42 : decode cX5_wouldTake 42 = .ok (.imul, 1) := by decide +kernel
theorem dX5_wouldTake_43 : decode cX5_wouldTake 43 = .ok (.iaload, 1) := by decide +kernel
theorem dX5_wouldTake_44 : decode cX5_wouldTake 44 = .ok (.iload_n 1, 1) := by decide +kernel
theorem dX5_wouldTake_45 : decode cX5_wouldTake 45 = .ok (.if_icmp .ne 7, 3) := by decide +kernel
theorem dX5_wouldTake_48 : decode cX5_wouldTake 48 = .ok (.iconst 0, 1) := by decide +kernel
theorem dX5_wouldTake_49 : decode cX5_wouldTake 49 = .ok (.goto 4, 3) := by decide +kernel
theorem dX5_wouldTake_52 : decode cX5_wouldTake 52 = .ok (.iconst 1, 1) := by decide +kernel
theorem dX5_wouldTake_53 : decode cX5_wouldTake 53 = .ok (.iadd, 1) := by decide +kernel
theorem dX5_wouldTake_54 : decode cX5_wouldTake 54 = .ok (.istore_n 3, 1) := by decide +kernel
theorem dX5_wouldTake_55 : decode cX5_wouldTake 55 = .ok (.iinc 4 1, 3) := by decide +kernel
theorem dX5_wouldTake_58 : decode cX5_wouldTake 58 = .ok (.goto (-30), 3) := by decide +kernel
theorem dX5_wouldTake_61 : decode cX5_wouldTake 61 = .ok (.iload_n 3, 1) := by decide +kernel
theorem dX5_wouldTake_62 : decode cX5_wouldTake 62 = .ok (.ireturn, 1) := by decide +kernel
theorem dX5_courtier_0 : decode cX5_courtier 0 = .ok (.iload_n 1, 1) := by decide +kernel
theorem dX5_courtier_1 : decode cX5_courtier 1 = .ok (.invokestatic 78, 3) := by decide +kernel
theorem dX5_courtier_4 : decode cX5_courtier 4 = .ok (.ifCond .ne 6, 3) := by decide +kernel
theorem dX5_courtier_7 : decode cX5_courtier 7 = .ok (.ldc 125, 2) := by decide +kernel
theorem dX5_courtier_9 : decode cX5_courtier 9 = .ok (.ireturn, 1) := by decide +kernel
theorem dX5_courtier_10 : decode cX5_courtier 10 = .ok (.iload_n 2, 1) := by decide +kernel
theorem dX5_courtier_11 : decode cX5_courtier 11 = .ok (.tableswitch 59 0 3 #[29, 39, 46, 53], 29) := by decide +kernel
theorem dX5_courtier_40 : decode cX5_courtier 40 = .ok (.aload_n 0, 1) := by decide +kernel
theorem dX5_courtier_41 : decode cX5_courtier 41 = .ok (.getfield 7, 3) := by decide +kernel
theorem dX5_courtier_44 : decode cX5_courtier 44 = .ok (.bipush 6, 2) := by decide +kernel
theorem dX5_courtier_46 : decode cX5_courtier 46 = .ok (.iload_n 1, 1) := by decide +kernel
theorem dX5_courtier_47 : decode cX5_courtier 47 = .ok (.iadd, 1) := by decide +kernel
theorem dX5_courtier_48 : decode cX5_courtier 48 = .ok (.iaload, 1) := by decide +kernel
theorem dX5_courtier_49 : decode cX5_courtier 49 = .ok (.ireturn, 1) := by decide +kernel
theorem dX5_courtier_50 : decode cX5_courtier 50 = .ok (.aload_n 0, 1) := by decide +kernel
theorem dX5_courtier_51 : decode cX5_courtier 51 = .ok (.iload_n 1, 1) := by decide +kernel
theorem dX5_courtier_52 : decode cX5_courtier 52 = .ok (.iconst (-1), 1) := by decide +kernel
theorem dX5_courtier_53 : decode cX5_courtier 53 = .ok (.invokevirtual 162, 3) := by decide +kernel
theorem dX5_courtier_56 : decode cX5_courtier 56 = .ok (.ireturn, 1) := by decide +kernel
theorem dX5_courtier_57 : decode cX5_courtier 57 = .ok (.aload_n 0, 1) := by decide +kernel
theorem dX5_courtier_58 : decode cX5_courtier 58 = .ok (.iconst (-1), 1) := by decide +kernel
theorem dX5_courtier_59 : decode cX5_courtier 59 = .ok (.iload_n 1, 1) := by decide +kernel
theorem dX5_courtier_60 : decode cX5_courtier 60 = .ok (.invokevirtual 162, 3) := by decide +kernel
theorem dX5_courtier_63 : decode cX5_courtier 63 = .ok (.ireturn, 1) := by decide +kernel
theorem dX5_courtier_64 : decode cX5_courtier 64 = .ok (.aload_n 0, 1) := by decide +kernel
theorem dX5_courtier_65 : decode cX5_courtier 65 = .ok (.iload_n 1, 1) := by decide +kernel
theorem dX5_courtier_66 : decode cX5_courtier 66 = .ok (.invokevirtual 165, 3) := by decide +kernel
theorem dX5_courtier_69 : decode cX5_courtier 69 = .ok (.ireturn, 1) := by decide +kernel
theorem dX5_courtier_70 : decode cX5_courtier 70 = .ok (.ldc 121, 2) := by decide +kernel
theorem dX5_courtier_72 : decode cX5_courtier 72 = .ok (.ireturn, 1) := by decide +kernel
theorem dX5_ifGiven_0 : decode cX5_ifGiven 0 = .ok (.iload_n 1, 1) := by decide +kernel
theorem dX5_ifGiven_1 : decode cX5_ifGiven 1 = .ok (.invokestatic 78, 3) := by decide +kernel
theorem dX5_ifGiven_4 : decode cX5_ifGiven 4 = .ok (.ifCond .eq 10, 3) := by decide +kernel
theorem dX5_ifGiven_7 : decode cX5_ifGiven 7 = .ok (.iload_n 2, 1) := by decide +kernel
theorem dX5_ifGiven_8 : decode cX5_ifGiven 8 = .ok (.invokestatic 78, 3) := by decide +kernel
theorem dX5_ifGiven_11 : decode cX5_ifGiven 11 = .ok (.ifCond .ne 6, 3) := by decide +kernel
theorem dX5_ifGiven_14 : decode cX5_ifGiven 14 = .ok (.ldc 125, 2) := by decide +kernel
theorem dX5_ifGiven_16 : decode cX5_ifGiven 16 = .ok (.ireturn, 1) := by decide +kernel
theorem dX5_ifGiven_17 : decode cX5_ifGiven 17 = .ok (.aload_n 0, 1) := by decide +kernel
theorem dX5_ifGiven_18 : decode cX5_ifGiven 18 = .ok (.invokevirtual 147, 3) := by decide +kernel
theorem dX5_ifGiven_21 : decode cX5_ifGiven 21 = .ok (.ifCond .ne 6, 3) := by decide +kernel
theorem dX5_ifGiven_24 : decode cX5_ifGiven 24 = .ok (.ldc 136, 2) := by decide +kernel
theorem dX5_ifGiven_26 : decode cX5_ifGiven 26 = .ok (.ireturn, 1) := by decide +kernel
theorem dX5_ifGiven_27 : decode cX5_ifGiven 27 = .ok (.aload_n 0, 1) := by decide +kernel
theorem dX5_ifGiven_28 : decode cX5_ifGiven 28 = .ok (.invokevirtual 168, 3) := by decide +kernel
theorem dX5_ifGiven_31 : decode cX5_ifGiven 31 = .ok (.aload_n 0, 1) := by decide +kernel
theorem dX5_ifGiven_32 : decode cX5_ifGiven 32 = .ok (.invokevirtual 150, 3) := by decide +kernel
theorem dX5_ifGiven_35 : decode cX5_ifGiven 35 = .ok (.istore_n 3, 1) := by decide +kernel
theorem dX5_ifGiven_36 : decode cX5_ifGiven 36 = .ok (.aload_n 0, 1) := by decide +kernel
theorem dX5_ifGiven_37 : decode cX5_ifGiven 37 = .ok (.getfield 7, 3) := by decide +kernel
theorem dX5_ifGiven_40 : decode cX5_ifGiven 40 = .ok (.iload_n 1, 1) := by decide +kernel
theorem dX5_ifGiven_41 : decode cX5_ifGiven 41 = .ok (.iload_n 2, 1) := by decide +kernel
theorem dX5_ifGiven_42 : decode cX5_ifGiven 42 = .ok (.invokestatic 99, 3) := by decide +kernel
theorem dX5_ifGiven_45 : decode cX5_ifGiven 45 = .ok (.iaload, 1) := by decide +kernel
theorem dX5_ifGiven_46 : decode cX5_ifGiven 46 = .ok (.istore 4, 2) := by decide +kernel
theorem dX5_ifGiven_48 : decode cX5_ifGiven 48 = .ok (.aload_n 0, 1) := by decide +kernel
theorem dX5_ifGiven_49 : decode cX5_ifGiven 49 = .ok (.invokevirtual 171, 3) := by decide +kernel
theorem dX5_ifGiven_52 : decode cX5_ifGiven 52 = .ok (.iload 4, 2) := by decide +kernel
theorem dX5_ifGiven_54 : decode cX5_ifGiven 54 = .ok (.ireturn, 1) := by decide +kernel
theorem dX5_bestBow_0 : decode cX5_bestBow 0 = .ok (.aload_n 0, 1) := by decide +kernel
theorem dX5_bestBow_1 : decode cX5_bestBow 1 = .ok (.getfield 7, 3) := by decide +kernel
theorem dX5_bestBow_4 : decode cX5_bestBow 4 = .ok (.iconst 3, 1) := by decide +kernel
theorem dX5_bestBow_5 : decode cX5_bestBow 5 = .ok (.iaload, 1) := by decide +kernel
theorem dX5_bestBow_6 : decode cX5_bestBow 6 = .ok (.bipush 24, 2) := by decide +kernel
theorem dX5_bestBow_8 : decode cX5_bestBow 8 = .ok (.if_icmp .ne 6, 3) := by decide +kernel
theorem dX5_bestBow_11 : decode cX5_bestBow 11 = .ok (.ldc 70, 2) := by decide +kernel
theorem dX5_bestBow_13 : decode cX5_bestBow 13 = .ok (.ireturn, 1) := by decide +kernel
theorem dX5_bestBow_14 : decode cX5_bestBow 14 = .ok (.ldc 70, 2) := by decide +kernel
theorem dX5_bestBow_16 : decode cX5_bestBow 16 = .ok (.istore_n 1, 1) := by decide +kernel
theorem dX5_bestBow_17 : decode cX5_bestBow 17 = .ok (.aload_n 0, 1) := by decide +kernel
theorem dX5_bestBow_18 : decode cX5_bestBow 18 = .ok (.iconst 0, 1) := by decide +kernel
theorem dX5_bestBow_19 : decode cX5_bestBow 19 = .ok (.invokevirtual 102, 3) := by decide +kernel
theorem dX5_bestBow_22 : decode cX5_bestBow 22 = .ok (.istore_n 2, 1) := by decide +kernel
theorem dX5_bestBow_23 : decode cX5_bestBow 23 = .ok (.iconst 0, 1) := by decide +kernel
theorem dX5_bestBow_24 : decode cX5_bestBow 24 = .ok (.istore_n 3, 1) := by decide +kernel
theorem dX5_bestBow_25 : decode cX5_bestBow 25 = .ok (.iload_n 3, 1) := by decide +kernel
theorem dX5_bestBow_26 : decode cX5_bestBow 26 = .ok (.bipush 6, 2) := by decide +kernel
theorem dX5_bestBow_28 : decode cX5_bestBow 28 = .ok (.if_icmp .ge 57, 3) := by decide +kernel
theorem dX5_bestBow_31 : decode cX5_bestBow 31 = .ok (.aload_n 0, 1) := by decide +kernel
theorem dX5_bestBow_32 : decode cX5_bestBow 32 = .ok (.iload_n 3, 1) := by decide +kernel
theorem dX5_bestBow_33 : decode cX5_bestBow 33 = .ok (.iconst 0, 1) := by decide +kernel
theorem dX5_bestBow_34 : decode cX5_bestBow 34 = .ok (.invokevirtual 132, 3) := by decide +kernel
theorem dX5_bestBow_37 : decode cX5_bestBow 37 = .ok (.aload_n 0, 1) := by decide +kernel
theorem dX5_bestBow_38 : decode cX5_bestBow 38 = .ok (.iconst 0, 1) := by decide +kernel
theorem dX5_bestBow_39 : decode cX5_bestBow 39 = .ok (.invokevirtual 102, 3) := by decide +kernel
theorem dX5_bestBow_42 : decode cX5_bestBow 42 = .ok (.istore 4, 2) := by decide +kernel
theorem dX5_bestBow_44 : decode cX5_bestBow 44 = .ok (.aload_n 0, 1) := by decide +kernel
theorem dX5_bestBow_45 : decode cX5_bestBow 45 = .ok (.getfield 7, 3) := by decide +kernel
theorem dX5_bestBow_48 : decode cX5_bestBow 48 = .ok (.iconst 3, 1) := by decide +kernel
theorem dX5_bestBow_49 : decode cX5_bestBow 49 = .ok (.dup2, 1) := by decide +kernel
theorem dX5_bestBow_50 : decode cX5_bestBow 50 = .ok (.iaload, 1) := by decide +kernel
theorem dX5_bestBow_51 : decode cX5_bestBow 51 = .ok (.iconst 1, 1) := by decide +kernel
theorem dX5_bestBow_52 : decode cX5_bestBow 52 = .ok (.isub, 1) := by decide +kernel
theorem dX5_bestBow_53 : decode cX5_bestBow 53 = .ok (.iastore, 1) := by decide +kernel
theorem dX5_bestBow_54 : decode cX5_bestBow 54 = .ok (.iload 4, 2) := by decide +kernel
theorem dX5_bestBow_56 : decode cX5_bestBow 56 = .ok (.iload_n 2, 1) := by decide +kernel
theorem dX5_bestBow_57 : decode cX5_bestBow 57 = .ok (.if_icmp .le 7, 3) := by decide +kernel
theorem dX5_bestBow_60 : decode cX5_bestBow 60 = .ok (.iload_n 3, 1) := by decide +kernel
theorem dX5_bestBow_61 : decode cX5_bestBow 61 = .ok (.goto 4, 3) := by decide +kernel
theorem dX5_bestBow_64 : decode cX5_bestBow 64 = .ok (.iload_n 1, 1) := by decide +kernel
theorem dX5_bestBow_65 : decode cX5_bestBow 65 = .ok (.istore_n 1, 1) := by decide +kernel
theorem dX5_bestBow_66 : decode cX5_bestBow 66 = .ok (.iload 4, 2) := by decide +kernel
theorem dX5_bestBow_68 : decode cX5_bestBow 68 = .ok (.iload_n 2, 1) := by decide +kernel
theorem dX5_bestBow_69 : decode cX5_bestBow 69 = .ok (.if_icmp .le 8, 3) := by decide +kernel
theorem dX5_bestBow_72 : decode cX5_bestBow 72 = .ok (.iload 4, 2) := by decide +kernel
theorem dX5_bestBow_74 : decode cX5_bestBow 74 = .ok (.goto 4, 3) := by decide +kernel
theorem dX5_bestBow_77 : decode cX5_bestBow 77 = .ok (.iload_n 2, 1) := by decide +kernel
theorem dX5_bestBow_78 : decode cX5_bestBow 78 = .ok (.istore_n 2, 1) := by decide +kernel
theorem dX5_bestBow_79 : decode cX5_bestBow 79 = .ok (.iinc 3 1, 3) := by decide +kernel
theorem dX5_bestBow_82 : decode cX5_bestBow 82 = .ok (.goto (-57), 3) := by decide +kernel
theorem dX5_bestBow_85 : decode cX5_bestBow 85 = .ok (.aload_n 0, 1) := by decide +kernel
theorem dX5_bestBow_86 : decode cX5_bestBow 86 = .ok (.getfield 7, 3) := by decide +kernel
theorem dX5_bestBow_89 : decode cX5_bestBow 89 = .ok (.bipush 48, 2) := by decide +kernel
theorem dX5_bestBow_91 : decode cX5_bestBow 91 = .ok (.aload_n 0, 1) := by decide +kernel
theorem dX5_bestBow_92 : decode cX5_bestBow 92 = .ok (.getfield 7, 3) := by decide +kernel
theorem dX5_bestBow_95 : decode cX5_bestBow 95 = .ok (.iconst 3, 1) := by decide +kernel
theorem dX5_bestBow_96 : decode cX5_bestBow 96 = .ok (.iaload, 1) := by decide +kernel
theorem dX5_bestBow_97 : decode cX5_bestBow 97 = .ok (.iadd, 1) := by decide +kernel
theorem dX5_bestBow_98 : decode cX5_bestBow 98 = .ok (.iconst 0, 1) := by decide +kernel
theorem dX5_bestBow_99 : decode cX5_bestBow 99 = .ok (.iastore, 1) := by decide +kernel
theorem dX5_bestBow_100 : decode cX5_bestBow 100 = .ok (.iload_n 1, 1) := by decide +kernel
theorem dX5_bestBow_101 : decode cX5_bestBow 101 = .ok (.ireturn, 1) := by decide +kernel
theorem dX5_darling_0 : decode cX5_darling 0 = .ok (.iconst 0, 1) := by decide +kernel
theorem dX5_darling_1 : decode cX5_darling 1 = .ok (.istore_n 1, 1) := by decide +kernel
theorem dX5_darling_2 : decode cX5_darling 2 = .ok (.iconst 1, 1) := by decide +kernel
theorem dX5_darling_3 : decode cX5_darling 3 = .ok (.istore_n 2, 1) := by decide +kernel
theorem dX5_darling_4 : decode cX5_darling 4 = .ok (.iload_n 2, 1) := by decide +kernel
theorem dX5_darling_5 : decode cX5_darling 5 = .ok (.bipush 6, 2) := by decide +kernel
theorem dX5_darling_7 : decode cX5_darling 7 = .ok (.if_icmp .ge 30, 3) := by decide +kernel
theorem dX5_darling_10 : decode cX5_darling 10 = .ok (.aload_n 0, 1) := by decide +kernel
theorem dX5_darling_11 : decode cX5_darling 11 = .ok (.iload_n 2, 1) := by decide +kernel
theorem dX5_darling_12 : decode cX5_darling 12 = .ok (.iconst (-1), 1) := by decide +kernel
theorem dX5_darling_13 : decode cX5_darling 13 = .ok (.invokevirtual 162, 3) := by decide +kernel
theorem dX5_darling_16 : decode cX5_darling 16 = .ok (.aload_n 0, 1) := by decide +kernel
theorem dX5_darling_17 : decode cX5_darling 17 = .ok (.iload_n 1, 1) := by decide +kernel
theorem dX5_darling_18 : decode cX5_darling 18 = .ok (.iconst (-1), 1) := by decide +kernel
theorem dX5_darling_19 : decode cX5_darling 19 = .ok (.invokevirtual 162, 3) := by decide +kernel
theorem dX5_darling_22 : decode cX5_darling 22 = .ok (.if_icmp .le 7, 3) := by decide +kernel
theorem dX5_darling_25 : decode cX5_darling 25 = .ok (.iload_n 2, 1) := by decide +kernel
theorem dX5_darling_26 : decode cX5_darling 26 = .ok (.goto 4, 3) := by decide +kernel
theorem dX5_darling_29 : decode cX5_darling 29 = .ok (.iload_n 1, 1) := by decide +kernel
theorem dX5_darling_30 : decode cX5_darling 30 = .ok (.istore_n 1, 1) := by decide +kernel
theorem dX5_darling_31 : decode cX5_darling 31 = .ok (.iinc 2 1, 3) := by decide +kernel
theorem dX5_darling_34 : decode cX5_darling 34 = .ok (.goto (-30), 3) := by decide +kernel
theorem dX5_darling_37 : decode cX5_darling 37 = .ok (.iload_n 1, 1) := by decide +kernel
theorem dX5_darling_38 : decode cX5_darling 38 = .ok (.ireturn, 1) := by decide +kernel
theorem dX5_charactersOf_0 : decode cX5_charactersOf 0 = .ok (.lload_n 0, 1) := by decide +kernel
theorem dX5_charactersOf_1 : decode cX5_charactersOf 1 = .ok (.lstore_n 2, 1) := by decide +kernel
theorem dX5_charactersOf_2 : decode cX5_charactersOf 2 = .ok (.iconst 0, 1) := by decide +kernel
theorem dX5_charactersOf_3 : decode cX5_charactersOf 3 = .ok (.istore 4, 2) := by decide +kernel
theorem dX5_charactersOf_5 : decode cX5_charactersOf 5 = .ok (.iload 4, 2) := by decide +kernel
theorem dX5_charactersOf_7 : decode cX5_charactersOf 7 = .ok (.bipush 8, 2) := by decide +kernel
theorem dX5_charactersOf_9 : decode cX5_charactersOf 9 = .ok (.if_icmp .ge 31, 3) := by decide +kernel
theorem dX5_charactersOf_12 : decode cX5_charactersOf 12 = .ok (.lload_n 2, 1) := by decide +kernel
theorem dX5_charactersOf_13 : decode cX5_charactersOf 13 = .ok (.ldc2_w 174, 3) := by decide +kernel
theorem dX5_charactersOf_16 : decode cX5_charactersOf 16 = .ok (.land, 1) := by decide +kernel
theorem dX5_charactersOf_17 : decode cX5_charactersOf 17 = .ok (.ldc2_w 176, 3) := by decide +kernel
theorem dX5_charactersOf_20 : decode cX5_charactersOf 20 = .ok (.ldc2_w 178, 3) := by decide +kernel
theorem dX5_charactersOf_23 : decode cX5_charactersOf 23 = .ok (.invokestatic 49, 3) := by decide +kernel
theorem dX5_charactersOf_26 : decode cX5_charactersOf 26 = .ok (.ifCond .eq 14, 3) := by decide +kernel
theorem dX5_charactersOf_29 : decode cX5_charactersOf 29 = .ok (.lload_n 2, 1) := by decide +kernel
theorem dX5_charactersOf_30 : decode cX5_charactersOf 30 = .ok (.bipush 8, 2) := by decide +kernel
theorem dX5_charactersOf_32 : decode cX5_charactersOf 32 = .ok (.lushr, 1) := by decide +kernel
theorem dX5_charactersOf_33 : decode cX5_charactersOf 33 = .ok (.lstore_n 2, 1) := by decide +kernel
theorem dX5_charactersOf_34 : decode cX5_charactersOf 34 = .ok (.iinc 4 1, 3) := by decide +kernel
theorem dX5_charactersOf_37 : decode cX5_charactersOf 37 = .ok (.goto (-32), 3) := by decide +kernel
theorem dX5_charactersOf_40 : decode cX5_charactersOf 40 = .ok (.lload_n 2, 1) := by decide +kernel
theorem dX5_charactersOf_41 : decode cX5_charactersOf 41 = .ok (.lconst 0, 1) := by decide +kernel
theorem dX5_charactersOf_42 : decode cX5_charactersOf 42 = .ok (.lcmp, 1) := by decide +kernel
theorem dX5_charactersOf_43 : decode cX5_charactersOf 43 = .ok (.ifCond .ne 8, 3) := by decide +kernel
theorem dX5_charactersOf_46 : decode cX5_charactersOf 46 = .ok (.iload 4, 2) := by decide +kernel
theorem dX5_charactersOf_48 : decode cX5_charactersOf 48 = .ok (.goto 4, 3) := by decide +kernel
theorem dX5_charactersOf_51 : decode cX5_charactersOf 51 = .ok (.iconst 0, 1) := by decide +kernel
theorem dX5_charactersOf_52 : decode cX5_charactersOf 52 = .ok (.ireturn, 1) := by decide +kernel
theorem dX5_put_0 : decode cX5_put 0 = .ok (.lload_n 1, 1) := by decide +kernel
theorem dX5_put_1 : decode cX5_put 1 = .ok (.invokestatic 180, 3) := by decide +kernel
theorem dX5_put_4 : decode cX5_put 4 = .ok (.istore_n 3, 1) := by decide +kernel
theorem dX5_put_5 : decode cX5_put 5 = .ok (.iload_n 3, 1) := by decide +kernel
theorem dX5_put_6 : decode cX5_put 6 = .ok (.ifCond .ne 6, 3) := by decide +kernel
theorem dX5_put_9 : decode cX5_put 9 = .ok (.ldc 121, 2) := by decide +kernel
theorem dX5_put_11 : decode cX5_put 11 = .ok (.ireturn, 1) := by decide +kernel
theorem dX5_put_12 : decode cX5_put 12 = .ok (.aload_n 0, 1) := by decide +kernel
theorem dX5_put_13 : decode cX5_put 13 = .ok (.getfield 144, 3) := by decide +kernel
theorem dX5_put_16 : decode cX5_put 16 = .ok (.iload_n 3, 1) := by decide +kernel
theorem dX5_put_17 : decode cX5_put 17 = .ok (.iadd, 1) := by decide +kernel
theorem dX5_put_18 : decode cX5_put 18 = .ok (.bipush 60, 2) := by decide +kernel
theorem dX5_put_20 : decode cX5_put 20 = .ok (.if_icmp .le 6, 3) := by decide +kernel
theorem dX5_put_23 : decode cX5_put 23 = .ok (.ldc 131, 2) := by decide +kernel
theorem dX5_put_25 : decode cX5_put 25 = .ok (.ireturn, 1) := by decide +kernel
theorem dX5_put_26 : decode cX5_put 26 = .ok (.iconst 0, 1) := by decide +kernel
theorem dX5_put_27 : decode cX5_put 27 = .ok (.istore 4, 2) := by decide +kernel
theorem dX5_put_29 : decode cX5_put 29 = .ok (.iload 4, 2) := by decide +kernel
theorem dX5_put_31 : decode cX5_put 31 = .ok (.iload_n 3, 1) := by decide +kernel
theorem dX5_put_32 : decode cX5_put 32 = .ok (.if_icmp .ge 37, 3) := by decide +kernel
theorem dX5_put_35 : decode cX5_put 35 = .ok (.aload_n 0, 1) := by decide +kernel
theorem dX5_put_36 : decode cX5_put 36 = .ok (.getfield 34, 3) := by decide +kernel
theorem dX5_put_39 : decode cX5_put 39 = .ok (.aload_n 0, 1) := by decide +kernel
theorem dX5_put_40 : decode cX5_put 40 = .ok (.getfield 144, 3) := by decide +kernel
theorem dX5_put_43 : decode cX5_put 43 = .ok (.iload 4, 2) := by decide +kernel
theorem dX5_put_45 : decode cX5_put 45 = .ok (.iadd, 1) := by decide +kernel
theorem dX5_put_46 : decode cX5_put 46 = .ok (.lload_n 1, 1) := by decide +kernel
theorem dX5_put_47 : decode cX5_put 47 = .ok (.bipush 8, 2) := by decide +kernel
theorem dX5_put_49 : decode cX5_put 49 = .ok (.iload_n 3, 1) := by decide +kernel
theorem dX5_put_50 : decode cX5_put 50 = .ok (.iconst 1, 1) := by decide +kernel
theorem dX5_put_51 : decode cX5_put 51 = .ok (.isub, 1) := by decide +kernel
theorem dX5_put_52 : decode cX5_put 52 = .ok (.iload 4, 2) := by decide +kernel
theorem dX5_put_54 : decode cX5_put 54 = .ok (.isub, 1) := by decide +kernel
theorem dX5_put_55 : decode cX5_put 55 = .ok (.imul, 1) := by decide +kernel
theorem dX5_put_56 : decode cX5_put 56 = .ok (.lushr, 1) := by decide +kernel
theorem dX5_put_57 : decode cX5_put 57 = .ok (.ldc2_w 174, 3) := by decide +kernel
theorem dX5_put_60 : decode cX5_put 60 = .ok (.land, 1) := by decide +kernel
theorem dX5_put_61 : decode cX5_put 61 = .ok (.l2i, 1) := by decide +kernel
theorem dX5_put_62 : decode cX5_put 62 = .ok (.iastore, 1) := by decide +kernel
theorem dX5_put_63 : decode cX5_put 63 = .ok (.iinc 4 1, 3) := by decide +kernel
theorem dX5_put_66 : decode cX5_put 66 = .ok (.goto (-37), 3) := by decide +kernel
theorem dX5_put_69 : decode cX5_put 69 = .ok (.aload_n 0, 1) := by decide +kernel
theorem dX5_put_70 : decode cX5_put 70 = .ok (.dup, 1) := by decide +kernel
theorem dX5_put_71 : decode cX5_put 71 = .ok (.getfield 144, 3) := by decide +kernel
theorem dX5_put_74 : decode cX5_put 74 = .ok (.iload_n 3, 1) := by decide +kernel
theorem dX5_put_75 : decode cX5_put 75 = .ok (.iadd, 1) := by decide +kernel
theorem dX5_put_76 : decode cX5_put 76 = .ok (.putfield 144, 3) := by decide +kernel
theorem dX5_put_79 : decode cX5_put 79 = .ok (.aload_n 0, 1) := by decide +kernel
theorem dX5_put_80 : decode cX5_put 80 = .ok (.getfield 144, 3) := by decide +kernel
theorem dX5_put_83 : decode cX5_put 83 = .ok (.ireturn, 1) := by decide +kernel
theorem dX5_wipe_0 : decode cX5_wipe 0 = .ok (.aload_n 0, 1) := by decide +kernel
theorem dX5_wipe_1 : decode cX5_wipe 1 = .ok (.getfield 144, 3) := by decide +kernel
theorem dX5_wipe_4 : decode cX5_wipe 4 = .ok (.istore_n 1, 1) := by decide +kernel
theorem dX5_wipe_5 : decode cX5_wipe 5 = .ok (.aload_n 0, 1) := by decide +kernel
theorem dX5_wipe_6 : decode cX5_wipe 6 = .ok (.iconst 0, 1) := by decide +kernel
theorem dX5_wipe_7 : decode cX5_wipe 7 = .ok (.putfield 144, 3) := by decide +kernel
theorem dX5_wipe_10 : decode cX5_wipe 10 = .ok (.iload_n 1, 1) := by decide +kernel
theorem dX5_wipe_11 : decode cX5_wipe 11 = .ok (.ireturn, 1) := by decide +kernel
theorem dX5_isHere_0 : decode cX5_isHere 0 = .ok (.aload_n 0, 1) := by decide +kernel
theorem dX5_isHere_1 : decode cX5_isHere 1 = .ok (.getfield 184, 3) := by decide +kernel
theorem dX5_isHere_4 : decode cX5_isHere 4 = .ok (.aload_n 0, 1) := by decide +kernel
theorem dX5_isHere_5 : decode cX5_isHere 5 = .ok (.getfield 144, 3) := by decide +kernel
theorem dX5_isHere_8 : decode cX5_isHere 8 = .ok (.if_icmp .ge 27, 3) := by decide +kernel
theorem dX5_isHere_11 : decode cX5_isHere 11 = .ok (.aload_n 0, 1) := by decide +kernel
theorem dX5_isHere_12 : decode cX5_isHere 12 = .ok (.getfield 34, 3) := by decide +kernel
theorem dX5_isHere_15 : decode cX5_isHere 15 = .ok (.aload_n 0, 1) := by decide +kernel
theorem dX5_isHere_16 : decode cX5_isHere 16 = .ok (.getfield 184, 3) := by decide +kernel
theorem dX5_isHere_19 : decode cX5_isHere 19 = .ok (.iaload, 1) := by decide +kernel
theorem dX5_isHere_20 : decode cX5_isHere 20 = .ok (.i2l, 1) := by decide +kernel
theorem dX5_isHere_21 : decode cX5_isHere 21 = .ok (.iload_n 1, 1) := by decide +kernel
theorem dX5_isHere_22 : decode cX5_isHere 22 = .ok (.i2l, 1) := by decide +kernel
theorem dX5_isHere_23 : decode cX5_isHere 23 = .ok (.iload_n 2, 1) := by decide +kernel
theorem dX5_isHere_24 : decode cX5_isHere 24 = .ok (.i2l, 1) := by decide +kernel
theorem dX5_isHere_25 : decode cX5_isHere 25 = .ok (.invokestatic 49, 3) := by decide +kernel
theorem dX5_isHere_28 : decode cX5_isHere 28 = .ok (.ifCond .eq 7, 3) := by decide +kernel
theorem dX5_isHere_31 : decode cX5_isHere 31 = .ok (.iconst 1, 1) := by decide +kernel
theorem dX5_isHere_32 : decode cX5_isHere 32 = .ok (.goto 4, 3) := by decide +kernel
theorem dX5_isHere_35 : decode cX5_isHere 35 = .ok (.iconst 0, 1) := by decide +kernel
theorem dX5_isHere_36 : decode cX5_isHere 36 = .ok (.ireturn, 1) := by decide +kernel
theorem dX5_takesOne_0 : decode cX5_takesOne 0 = .ok (.aload_n 0, 1) := by decide +kernel
theorem dX5_takesOne_1 : decode cX5_takesOne 1 = .ok (.iload_n 1, 1) := by decide +kernel
theorem dX5_takesOne_2 : decode cX5_takesOne 2 = .ok (.iload_n 1, 1) := by decide +kernel
theorem dX5_takesOne_3 : decode cX5_takesOne 3 = .ok (.invokevirtual 187, 3) := by decide +kernel
theorem dX5_takesOne_6 : decode cX5_takesOne 6 = .ok (.istore_n 2, 1) := by decide +kernel
theorem dX5_takesOne_7 : decode cX5_takesOne 7 = .ok (.aload_n 0, 1) := by decide +kernel
theorem dX5_takesOne_8 : decode cX5_takesOne 8 = .ok (.dup, 1) := by decide +kernel
theorem dX5_takesOne_9 : decode cX5_takesOne 9 = .ok (.getfield 184, 3) := by decide +kernel
theorem dX5_takesOne_12 : decode cX5_takesOne 12 = .ok (.iload_n 2, 1) := by decide +kernel
theorem dX5_takesOne_13 : decode cX5_takesOne 13 = .ok (.ifCond .eq 7, 3) := by decide +kernel
theorem dX5_takesOne_16 : decode cX5_takesOne 16 = .ok (.iconst 1, 1) := by decide +kernel
theorem dX5_takesOne_17 : decode cX5_takesOne 17 = .ok (.goto 4, 3) := by decide +kernel
theorem dX5_takesOne_20 : decode cX5_takesOne 20 = .ok (.iconst 0, 1) := by decide +kernel
theorem dX5_takesOne_21 : decode cX5_takesOne 21 = .ok (.iadd, 1) := by decide +kernel
theorem dX5_takesOne_22 : decode cX5_takesOne 22 = .ok (.putfield 184, 3) := by decide +kernel
theorem dX5_takesOne_25 : decode cX5_takesOne 25 = .ok (.iload_n 2, 1) := by decide +kernel
theorem dX5_takesOne_26 : decode cX5_takesOne 26 = .ok (.ireturn, 1) := by decide +kernel
theorem dX5_readsBow_0 : decode cX5_readsBow 0 = .ok (.aload_n 0, 1) := by decide +kernel
theorem dX5_readsBow_1 : decode cX5_readsBow 1 = .ok (.bipush 49, 2) := by decide +kernel
theorem dX5_readsBow_3 : decode cX5_readsBow 3 = .ok (.bipush 51, 2) := by decide +kernel
theorem dX5_readsBow_5 : decode cX5_readsBow 5 = .ok (.invokevirtual 187, 3) := by decide +kernel
theorem dX5_readsBow_8 : decode cX5_readsBow 8 = .ok (.ifCond .ne 5, 3) := by decide +kernel
theorem dX5_readsBow_11 : decode cX5_readsBow 11 = .ok (.iconst 0, 1) := by decide +kernel
theorem dX5_readsBow_12 : decode cX5_readsBow 12 = .ok (.ireturn, 1) := by decide +kernel
theorem dX5_readsBow_13 : decode cX5_readsBow 13 = .ok (.aload_n 0, 1) := by decide +kernel
theorem dX5_readsBow_14 : decode cX5_readsBow 14 = .ok (.getfield 37, 3) := by decide +kernel
theorem dX5_readsBow_17 : decode cX5_readsBow 17 = .ok (.aload_n 0, 1) := by decide +kernel
theorem dX5_readsBow_18 : decode cX5_readsBow 18 = .ok (.getfield 141, 3) := by decide +kernel
theorem dX5_readsBow_21 : decode cX5_readsBow 21 = .ok (.iconst 2, 1) := by decide +kernel
theorem dX5_readsBow_22 : decode cX5_readsBow 22 = .ok (.aload_n 0, 1) := by decide +kernel
theorem dX5_readsBow_23 : decode cX5_readsBow 23 = .ok (.getfield 34, 3) := by decide +kernel
theorem dX5_readsBow_26 : decode cX5_readsBow 26 = .ok (.aload_n 0, 1) := by decide +kernel
theorem dX5_readsBow_27 : decode cX5_readsBow 27 = .ok (.getfield 184, 3) := by decide +kernel
theorem dX5_readsBow_30 : decode cX5_readsBow 30 = .ok (.iaload, 1) := by decide +kernel
theorem dX5_readsBow_31 : decode cX5_readsBow 31 = .ok (.bipush 49, 2) := by decide +kernel
theorem dX5_readsBow_33 : decode cX5_readsBow 33 = .ok (.isub, 1) := by decide +kernel
theorem dX5_readsBow_34 : decode cX5_readsBow 34 = .ok (.imul, 1) := by decide +kernel
theorem dX5_readsBow_35 : decode cX5_readsBow 35 = .ok (.iastore, 1) := by decide +kernel
theorem dX5_readsBow_36 : decode cX5_readsBow 36 = .ok (.aload_n 0, 1) := by decide +kernel
theorem dX5_readsBow_37 : decode cX5_readsBow 37 = .ok (.getfield 40, 3) := by decide +kernel
theorem dX5_readsBow_40 : decode cX5_readsBow 40 = .ok (.aload_n 0, 1) := by decide +kernel
theorem dX5_readsBow_41 : decode cX5_readsBow 41 = .ok (.getfield 141, 3) := by decide +kernel
theorem dX5_readsBow_44 : decode cX5_readsBow 44 = .ok (.iconst 0, 1) := by decide +kernel
theorem dX5_readsBow_45 : decode cX5_readsBow 45 = .ok (.iastore, 1) := by decide +kernel
theorem dX5_readsBow_46 : decode cX5_readsBow 46 = .ok (.aload_n 0, 1) := by decide +kernel
theorem dX5_readsBow_47 : decode cX5_readsBow 47 = .ok (.dup, 1) := by decide +kernel
theorem dX5_readsBow_48 : decode cX5_readsBow 48 = .ok (.getfield 184, 3) := by decide +kernel
theorem dX5_readsBow_51 : decode cX5_readsBow 51 = .ok (.iconst 1, 1) := by decide +kernel
theorem dX5_readsBow_52 : decode cX5_readsBow 52 = .ok (.iadd, 1) := by decide +kernel
theorem dX5_readsBow_53 : decode cX5_readsBow 53 = .ok (.putfield 184, 3) := by decide +kernel
theorem dX5_readsBow_56 : decode cX5_readsBow 56 = .ok (.aload_n 0, 1) := by decide +kernel
theorem dX5_readsBow_57 : decode cX5_readsBow 57 = .ok (.bipush 114, 2) := by decide +kernel
theorem dX5_readsBow_59 : decode cX5_readsBow 59 = .ok (.invokevirtual 190, 3) := by decide +kernel
theorem dX5_readsBow_62 : decode cX5_readsBow 62 = .ok (.ifCond .eq 19, 3) := by decide +kernel
theorem dX5_readsBow_65 : decode cX5_readsBow 65 = .ok (.aload_n 0, 1) := by decide +kernel
theorem dX5_readsBow_66 : decode cX5_readsBow 66 = .ok (.getfield 37, 3) := by decide +kernel
theorem dX5_readsBow_69 : decode cX5_readsBow 69 = .ok (.aload_n 0, 1) := by decide +kernel
theorem dX5_readsBow_70 : decode cX5_readsBow 70 = .ok (.getfield 141, 3) := by decide +kernel
theorem dX5_readsBow_73 : decode cX5_readsBow 73 = .ok (.dup2, 1) := by decide +kernel
theorem dX5_readsBow_74 : decode cX5_readsBow 74 = .ok (.iaload, 1) := by decide +kernel
theorem dX5_readsBow_75 : decode cX5_readsBow 75 = .ok (.iconst 1, 1) := by decide +kernel
theorem dX5_readsBow_76 : decode cX5_readsBow 76 = .ok (.iadd, 1) := by decide +kernel
theorem dX5_readsBow_77 : decode cX5_readsBow 77 = .ok (.iastore, 1) := by decide +kernel
theorem dX5_readsBow_78 : decode cX5_readsBow 78 = .ok (.goto 14, 3) := by decide +kernel
theorem dX5_readsBow_81 : decode cX5_readsBow 81 = .ok (.aload_n 0, 1) := by decide +kernel
theorem dX5_readsBow_82 : decode cX5_readsBow 82 = .ok (.bipush 108, 2) := by decide +kernel
theorem dX5_readsBow_84 : decode cX5_readsBow 84 = .ok (.invokevirtual 190, 3) := by decide +kernel
theorem dX5_readsBow_87 : decode cX5_readsBow 87 = .ok (.ifCond .ne 5, 3) := by decide +kernel
theorem dX5_readsBow_90 : decode cX5_readsBow 90 = .ok (.iconst 0, 1) := by decide +kernel
theorem dX5_readsBow_91 : decode cX5_readsBow 91 = .ok (.ireturn, 1) := by decide +kernel
theorem dX5_readsBow_92 : decode cX5_readsBow 92 = .ok (.aload_n 0, 1) := by decide +kernel
theorem dX5_readsBow_93 : decode cX5_readsBow 93 = .ok (.bipush 46, 2) := by decide +kernel
theorem dX5_readsBow_95 : decode cX5_readsBow 95 = .ok (.invokevirtual 190, 3) := by decide +kernel
theorem dX5_readsBow_98 : decode cX5_readsBow 98 = .ok (.ifCond .eq 47, 3) := by decide +kernel
theorem dX5_readsBow_101 : decode cX5_readsBow 101 = .ok (.aload_n 0, 1) := by decide +kernel
theorem dX5_readsBow_102 : decode cX5_readsBow 102 = .ok (.bipush 48, 2) := by decide +kernel
theorem dX5_readsBow_104 : decode cX5_readsBow 104 = .ok (.bipush 57, 2) := by decide +kernel
theorem dX5_readsBow_106 : decode cX5_readsBow 106 = .ok (.invokevirtual 187, 3) := by decide +kernel
theorem dX5_readsBow_109 : decode cX5_readsBow 109 = .ok (.ifCond .ne 5, 3) := by decide +kernel
theorem dX5_readsBow_112 : decode cX5_readsBow 112 = .ok (.iconst 0, 1) := by decide +kernel
theorem dX5_readsBow_113 : decode cX5_readsBow 113 = .ok (.ireturn, 1) := by decide +kernel
theorem dX5_readsBow_114 : decode cX5_readsBow 114 = .ok (.aload_n 0, 1) := by decide +kernel
theorem dX5_readsBow_115 : decode cX5_readsBow 115 = .ok (.getfield 40, 3) := by decide +kernel
theorem dX5_readsBow_118 : decode cX5_readsBow 118 = .ok (.aload_n 0, 1) := by decide +kernel
theorem dX5_readsBow_119 : decode cX5_readsBow 119 = .ok (.getfield 141, 3) := by decide +kernel
theorem dX5_readsBow_122 : decode cX5_readsBow 122 = .ok (.aload_n 0, 1) := by decide +kernel
theorem dX5_readsBow_123 : decode cX5_readsBow 123 = .ok (.getfield 34, 3) := by decide +kernel
theorem dX5_readsBow_126 : decode cX5_readsBow 126 = .ok (.aload_n 0, 1) := by decide +kernel
theorem dX5_readsBow_127 : decode cX5_readsBow 127 = .ok (.getfield 184, 3) := by decide +kernel
theorem dX5_readsBow_130 : decode cX5_readsBow 130 = .ok (.iaload, 1) := by decide +kernel
theorem dX5_readsBow_131 : decode cX5_readsBow 131 = .ok (.bipush 48, 2) := by decide +kernel
theorem dX5_readsBow_133 : decode cX5_readsBow 133 = .ok (.isub, 1) := by decide +kernel
theorem dX5_readsBow_134 : decode cX5_readsBow 134 = .ok (.iastore, 1) := by decide +kernel
theorem dX5_readsBow_135 : decode cX5_readsBow 135 = .ok (.aload_n 0, 1) := by decide +kernel
theorem dX5_readsBow_136 : decode cX5_readsBow 136 = .ok (.dup, 1) := by decide +kernel
theorem dX5_readsBow_137 : decode cX5_readsBow 137 = .ok (.getfield 184, 3) := by decide +kernel
theorem dX5_readsBow_140 : decode cX5_readsBow 140 = .ok (.iconst 1, 1) := by decide +kernel
theorem dX5_readsBow_141 : decode cX5_readsBow 141 = .ok (.iadd, 1) := by decide +kernel
theorem dX5_readsBow_142 : decode cX5_readsBow 142 = .ok (.putfield 184, 3) := by decide +kernel
theorem dX5_readsBow_145 : decode cX5_readsBow 145 = .ok (.aload_n 0, 1) := by decide +kernel
theorem dX5_readsBow_146 : decode cX5_readsBow 146 = .ok (.dup, 1) := by decide +kernel
theorem dX5_readsBow_147 : decode cX5_readsBow 147 = .ok (.getfield 141, 3) := by decide +kernel
theorem dX5_readsBow_150 : decode cX5_readsBow 150 = .ok (.iconst 1, 1) := by decide +kernel
theorem dX5_readsBow_151 : decode cX5_readsBow 151 = .ok (.iadd, 1) := by decide +kernel
theorem dX5_readsBow_152 : decode cX5_readsBow 152 = .ok (.putfield 141, 3) := by decide +kernel
theorem dX5_readsBow_155 : decode cX5_readsBow 155 = .ok (.iconst 1, 1) := by decide +kernel
theorem dX5_readsBow_156 : decode cX5_readsBow 156 = .ok (.ireturn, 1) := by decide +kernel
theorem dX5_fault_0 : decode cX5_fault 0 = .ok (.aload_n 0, 1) := by decide +kernel
theorem dX5_fault_1 : decode cX5_fault 1 = .ok (.iconst 0, 1) := by decide +kernel
theorem dX5_fault_2 : decode cX5_fault 2 = .ok (.putfield 184, 3) := by decide +kernel
theorem dX5_fault_5 : decode cX5_fault 5 = .ok (.aload_n 0, 1) := by decide +kernel
theorem dX5_fault_6 : decode cX5_fault 6 = .ok (.iconst 0, 1) := by decide +kernel
theorem dX5_fault_7 : decode cX5_fault 7 = .ok (.putfield 141, 3) := by decide +kernel
theorem dX5_fault_10 : decode cX5_fault 10 = .ok (.iconst 1, 1) := by decide +kernel
theorem dX5_fault_11 : decode cX5_fault 11 = .ok (.istore_n 1, 1) := by decide +kernel
theorem dX5_fault_12 : decode cX5_fault 12 = .ok (.iload_n 1, 1) := by decide +kernel
theorem dX5_fault_13 : decode cX5_fault 13 = .ok (.ifCond .eq 35, 3) := by decide +kernel
theorem dX5_fault_16 : decode cX5_fault 16 = .ok (.aload_n 0, 1) := by decide +kernel
theorem dX5_fault_17 : decode cX5_fault 17 = .ok (.invokevirtual 193, 3) := by decide +kernel
theorem dX5_fault_20 : decode cX5_fault 20 = .ok (.ifCond .ne 8, 3) := by decide +kernel
theorem dX5_fault_23 : decode cX5_fault 23 = .ok (.aload_n 0, 1) := by decide +kernel
theorem dX5_fault_24 : decode cX5_fault 24 = .ok (.getfield 184, 3) := by decide +kernel
theorem dX5_fault_27 : decode cX5_fault 27 = .ok (.ireturn, 1) := by decide +kernel
theorem dX5_fault_28 : decode cX5_fault 28 = .ok (.aload_n 0, 1) := by decide +kernel
theorem dX5_fault_29 : decode cX5_fault 29 = .ok (.getfield 184, 3) := by decide +kernel
theorem dX5_fault_32 : decode cX5_fault 32 = .ok (.aload_n 0, 1) := by decide +kernel
theorem dX5_fault_33 : decode cX5_fault 33 = .ok (.getfield 144, 3) := by decide +kernel
theorem dX5_fault_36 : decode cX5_fault 36 = .ok (.if_icmp .ge 7, 3) := by decide +kernel
theorem dX5_fault_39 : decode cX5_fault 39 = .ok (.iconst 1, 1) := by decide +kernel
theorem dX5_fault_40 : decode cX5_fault 40 = .ok (.goto 4, 3) := by decide +kernel
theorem dX5_fault_43 : decode cX5_fault 43 = .ok (.iconst 0, 1) := by decide +kernel
theorem dX5_fault_44 : decode cX5_fault 44 = .ok (.istore_n 1, 1) := by decide +kernel
theorem dX5_fault_45 : decode cX5_fault 45 = .ok (.goto (-33), 3) := by decide +kernel
theorem dX5_fault_48 : decode cX5_fault 48 = .ok (.ldc 70, 2) := by decide +kernel
theorem dX5_fault_50 : decode cX5_fault 50 = .ok (.ireturn, 1) := by decide +kernel
theorem dX5_undo_0 : decode cX5_undo 0 = .ok (.aload_n 0, 1) := by decide +kernel
theorem dX5_undo_1 : decode cX5_undo 1 = .ok (.getfield 43, 3) := by decide +kernel
theorem dX5_undo_4 : decode cX5_undo 4 = .ok (.ifCond .ne 6, 3) := by decide +kernel
theorem dX5_undo_7 : decode cX5_undo 7 = .ok (.ldc 136, 2) := by decide +kernel
theorem dX5_undo_9 : decode cX5_undo 9 = .ok (.ireturn, 1) := by decide +kernel
theorem dX5_undo_10 : decode cX5_undo 10 = .ok (.aload_n 0, 1) := by decide +kernel
theorem dX5_undo_11 : decode cX5_undo 11 = .ok (.dup, 1) := by decide +kernel
theorem dX5_undo_12 : decode cX5_undo 12 = .ok (.getfield 43, 3) := by decide +kernel
theorem dX5_undo_15 : decode cX5_undo 15 = .ok (.iconst 1, 1) := by decide +kernel
theorem dX5_undo_16 : decode cX5_undo 16 = .ok (.isub, 1) := by decide +kernel
theorem dX5_undo_17 : decode cX5_undo 17 = .ok (.putfield 43, 3) := by decide +kernel
theorem dX5_undo_20 : decode cX5_undo 20 = .ok (.iconst 0, 1) := by decide +kernel
theorem dX5_undo_21 : decode cX5_undo 21 = .ok (.istore_n 1, 1) := by decide +kernel
theorem dX5_undo_22 : decode cX5_undo 22 = .ok (.iload_n 1, 1) := by decide +kernel
theorem dX5_undo_23 : decode cX5_undo 23 = .ok (.bipush 120, 2) := by decide +kernel
theorem dX5_undo_25 : decode cX5_undo 25 = .ok (.if_icmp .ge 29, 3) := by decide +kernel
theorem dX5_undo_28 : decode cX5_undo 28 = .ok (.aload_n 0, 1) := by decide +kernel
theorem dX5_undo_29 : decode cX5_undo 29 = .ok (.getfield 7, 3) := by decide +kernel
theorem dX5_undo_32 : decode cX5_undo 32 = .ok (.iload_n 1, 1) := by decide +kernel
theorem dX5_undo_33 : decode cX5_undo 33 = .ok (.aload_n 0, 1) := by decide +kernel
theorem dX5_undo_34 : decode cX5_undo 34 = .ok (.getfield 16, 3) := by decide +kernel
theorem dX5_undo_37 : decode cX5_undo 37 = .ok (.bipush 120, 2) := by decide +kernel
theorem dX5_undo_39 : decode cX5_undo 39 = .ok (.aload_n 0, 1) := by decide +kernel
theorem dX5_undo_40 : decode cX5_undo 40 = .ok (.getfield 43, 3) := by decide +kernel
theorem dX5_undo_43 : decode cX5_undo 43 = .ok (.imul, 1) := by decide +kernel
theorem dX5_undo_44 : decode cX5_undo 44 = .ok (.iload_n 1, 1) := by decide +kernel
theorem dX5_undo_45 : decode cX5_undo 45 = .ok (.iadd, 1) := by decide +kernel
theorem dX5_undo_46 : decode cX5_undo 46 = .ok (.iaload, 1) := by decide +kernel
theorem dX5_undo_47 : decode cX5_undo 47 = .ok (.iastore, 1) := by decide +kernel
theorem dX5_undo_48 : decode cX5_undo 48 = .ok (.iinc 1 1, 3) := by decide +kernel
theorem dX5_undo_51 : decode cX5_undo 51 = .ok (.goto (-29), 3) := by decide +kernel
theorem dX5_undo_54 : decode cX5_undo 54 = .ok (.aload_n 0, 1) := by decide +kernel
theorem dX5_undo_55 : decode cX5_undo 55 = .ok (.getfield 43, 3) := by decide +kernel
theorem dX5_undo_58 : decode cX5_undo 58 = .ok (.ireturn, 1) := by decide +kernel
theorem dX5_isSlot_0 : decode cX5_isSlot 0 = .ok (.iload_n 0, 1) := by decide +kernel
theorem dX5_isSlot_1 : decode cX5_isSlot 1 = .ok (.ifCond .eq 8, 3) := by decide +kernel
theorem dX5_isSlot_4 : decode cX5_isSlot 4 = .ok (.iload_n 0, 1) := by decide +kernel
theorem dX5_isSlot_5 : decode cX5_isSlot 5 = .ok (.iconst 1, 1) := by decide +kernel
theorem dX5_isSlot_6 : decode cX5_isSlot 6 = .ok (.if_icmp .ne 7, 3) := by decide +kernel
theorem dX5_isSlot_9 : decode cX5_isSlot 9 = .ok (.iconst 1, 1) := by decide +kernel
theorem dX5_isSlot_10 : decode cX5_isSlot 10 = .ok (.goto 4, 3) := by decide +kernel
theorem dX5_isSlot_13 : decode cX5_isSlot 13 = .ok (.iconst 0, 1) := by decide +kernel
theorem dX5_isSlot_14 : decode cX5_isSlot 14 = .ok (.ireturn, 1) := by decide +kernel
theorem dX5_save_0 : decode cX5_save 0 = .ok (.iload_n 1, 1) := by decide +kernel
theorem dX5_save_1 : decode cX5_save 1 = .ok (.invokestatic 196, 3) := by decide +kernel
theorem dX5_save_4 : decode cX5_save 4 = .ok (.ifCond .ne 6, 3) := by decide +kernel
theorem dX5_save_7 : decode cX5_save 7 = .ok (.ldc 121, 2) := by decide +kernel
theorem dX5_save_9 : decode cX5_save 9 = .ok (.ireturn, 1) := by decide +kernel
theorem dX5_save_10 : decode cX5_save 10 = .ok (.iconst 0, 1) := by decide +kernel
theorem dX5_save_11 : decode cX5_save 11 = .ok (.istore_n 2, 1) := by decide +kernel
theorem dX5_save_12 : decode cX5_save 12 = .ok (.iload_n 2, 1) := by decide +kernel
theorem dX5_save_13 : decode cX5_save 13 = .ok (.bipush 120, 2) := by decide +kernel
theorem dX5_save_15 : decode cX5_save 15 = .ok (.if_icmp .ge 26, 3) := by decide +kernel
theorem dX5_save_18 : decode cX5_save 18 = .ok (.aload_n 0, 1) := by decide +kernel
theorem dX5_save_19 : decode cX5_save 19 = .ok (.getfield 19, 3) := by decide +kernel
theorem dX5_save_22 : decode cX5_save 22 = .ok (.bipush 120, 2) := by decide +kernel
theorem dX5_save_24 : decode cX5_save 24 = .ok (.iload_n 1, 1) := by decide +kernel
theorem dX5_save_25 : decode cX5_save 25 = .ok (.imul, 1) := by decide +kernel
theorem dX5_save_26 : decode cX5_save 26 = .ok (.iload_n 2, 1) := by decide +kernel
theorem dX5_save_27 : decode cX5_save 27 = .ok (.iadd, 1) := by decide +kernel
theorem dX5_save_28 : decode cX5_save 28 = .ok (.aload_n 0, 1) := by decide +kernel
theorem dX5_save_29 : decode cX5_save 29 = .ok (.getfield 7, 3) := by decide +kernel
theorem dX5_save_32 : decode cX5_save 32 = .ok (.iload_n 2, 1) := by decide +kernel
theorem dX5_save_33 : decode cX5_save 33 = .ok (.iaload, 1) := by decide +kernel
theorem dX5_save_34 : decode cX5_save 34 = .ok (.iastore, 1) := by decide +kernel
theorem dX5_save_35 : decode cX5_save 35 = .ok (.iinc 2 1, 3) := by decide +kernel
theorem dX5_save_38 : decode cX5_save 38 = .ok (.goto (-26), 3) := by decide +kernel
theorem dX5_save_41 : decode cX5_save 41 = .ok (.aload_n 0, 1) := by decide +kernel
theorem dX5_save_42 : decode cX5_save 42 = .ok (.getfield 22, 3) := by decide +kernel
theorem dX5_save_45 : decode cX5_save 45 = .ok (.iload_n 1, 1) := by decide +kernel
theorem dX5_save_46 : decode cX5_save 46 = .ok (.iconst 1, 1) := by decide +kernel
theorem dX5_save_47 : decode cX5_save 47 = .ok (.iastore, 1) := by decide +kernel
theorem dX5_save_48 : decode cX5_save 48 = .ok (.aload_n 0, 1) := by decide +kernel
theorem dX5_save_49 : decode cX5_save 49 = .ok (.getfield 7, 3) := by decide +kernel
theorem dX5_save_52 : decode cX5_save 52 = .ok (.iconst 3, 1) := by decide +kernel
theorem dX5_save_53 : decode cX5_save 53 = .ok (.iaload, 1) := by decide +kernel
theorem dX5_save_54 : decode cX5_save 54 = .ok (.ireturn, 1) := by decide +kernel
theorem dX5_restore_0 : decode cX5_restore 0 = .ok (.iload_n 1, 1) := by decide +kernel
theorem dX5_restore_1 : decode cX5_restore 1 = .ok (.invokestatic 196, 3) := by decide +kernel
theorem dX5_restore_4 : decode cX5_restore 4 = .ok (.ifCond .ne 6, 3) := by decide +kernel
theorem dX5_restore_7 : decode cX5_restore 7 = .ok (.ldc 121, 2) := by decide +kernel
theorem dX5_restore_9 : decode cX5_restore 9 = .ok (.ireturn, 1) := by decide +kernel
theorem dX5_restore_10 : decode cX5_restore 10 = .ok (.aload_n 0, 1) := by decide +kernel
theorem dX5_restore_11 : decode cX5_restore 11 = .ok (.getfield 22, 3) := by decide +kernel
theorem dX5_restore_14 : decode cX5_restore 14 = .ok (.iload_n 1, 1) := by decide +kernel
theorem dX5_restore_15 : decode cX5_restore 15 = .ok (.iaload, 1) := by decide +kernel
theorem dX5_restore_16 : decode cX5_restore 16 = .ok (.ifCond .ne 6, 3) := by decide +kernel
theorem dX5_restore_19 : decode cX5_restore 19 = .ok (.ldc 136, 2) := by decide +kernel
theorem dX5_restore_21 : decode cX5_restore 21 = .ok (.ireturn, 1) := by decide +kernel
theorem dX5_restore_22 : decode cX5_restore 22 = .ok (.aload_n 0, 1) := by decide +kernel
theorem dX5_restore_23 : decode cX5_restore 23 = .ok (.invokevirtual 122, 3) := by decide +kernel
theorem dX5_restore_26 : decode cX5_restore 26 = .ok (.iconst 0, 1) := by decide +kernel
theorem dX5_restore_27 : decode cX5_restore 27 = .ok (.istore_n 2, 1) := by decide +kernel
theorem dX5_restore_28 : decode cX5_restore 28 = .ok (.iload_n 2, 1) := by decide +kernel
theorem dX5_restore_29 : decode cX5_restore 29 = .ok (.bipush 120, 2) := by decide +kernel
theorem dX5_restore_31 : decode cX5_restore 31 = .ok (.if_icmp .ge 26, 3) := by decide +kernel
theorem dX5_restore_34 : decode cX5_restore 34 = .ok (.aload_n 0, 1) := by decide +kernel
theorem dX5_restore_35 : decode cX5_restore 35 = .ok (.getfield 7, 3) := by decide +kernel
theorem dX5_restore_38 : decode cX5_restore 38 = .ok (.iload_n 2, 1) := by decide +kernel
theorem dX5_restore_39 : decode cX5_restore 39 = .ok (.aload_n 0, 1) := by decide +kernel
theorem dX5_restore_40 : decode cX5_restore 40 = .ok (.getfield 19, 3) := by decide +kernel
theorem dX5_restore_43 : decode cX5_restore 43 = .ok (.bipush 120, 2) := by decide +kernel
theorem dX5_restore_45 : decode cX5_restore 45 = .ok (.iload_n 1, 1) := by decide +kernel
theorem dX5_restore_46 : decode cX5_restore 46 = .ok (.imul, 1) := by decide +kernel
theorem dX5_restore_47 : decode cX5_restore 47 = .ok (.iload_n 2, 1) := by decide +kernel
theorem dX5_restore_48 : decode cX5_restore 48 = .ok (.iadd, 1) := by decide +kernel
theorem dX5_restore_49 : decode cX5_restore 49 = .ok (.iaload, 1) := by decide +kernel
theorem dX5_restore_50 : decode cX5_restore 50 = .ok (.iastore, 1) := by decide +kernel
theorem dX5_restore_51 : decode cX5_restore 51 = .ok (.iinc 2 1, 3) := by decide +kernel
theorem dX5_restore_54 : decode cX5_restore 54 = .ok (.goto (-26), 3) := by decide +kernel
theorem dX5_restore_57 : decode cX5_restore 57 = .ok (.aload_n 0, 1) := by decide +kernel
theorem dX5_restore_58 : decode cX5_restore 58 = .ok (.getfield 7, 3) := by decide +kernel
theorem dX5_restore_61 : decode cX5_restore 61 = .ok (.iconst 3, 1) := by decide +kernel
theorem dX5_restore_62 : decode cX5_restore 62 = .ok (.iaload, 1) := by decide +kernel
theorem dX5_restore_63 : decode cX5_restore 63 = .ok (.ireturn, 1) := by decide +kernel
end
section
theorem dL_law_0 : decode cL_law 0 = .ok (.new 7, 3) := by decide +kernel
theorem dL_law_3 : decode cL_law 3 = .ok (.dup, 1) := by decide +kernel
theorem dL_law_4 : decode cL_law 4 = .ok (.invokespecial 9, 3) := by decide +kernel
theorem dL_law_7 : decode cL_law 7 = .ok (.astore_n 1, 1) := by decide +kernel
theorem dL_law_8 : decode cL_law 8 = .ok (.new 10, 3) := by decide +kernel
theorem dL_law_11 : decode cL_law 11 = .ok (.dup, 1) := by decide +kernel
theorem dL_law_12 : decode cL_law 12 = .ok (.invokespecial 12, 3) := by decide +kernel
theorem dL_law_15 : decode cL_law 15 = .ok (.astore_n 2, 1) := by decide +kernel
theorem dL_law_16 : decode cL_law 16 = .ok (.iconst 0, 1) := by decide +kernel
theorem dL_law_17 : decode cL_law 17 = .ok (.istore_n 3, 1) := by decide +kernel
theorem dL_law_18 : decode cL_law 18 = .ok (.iload_n 3, 1) := by decide +kernel
theorem dL_law_19 : decode cL_law 19 = .ok (.aload_n 0, 1) := by decide +kernel
theorem dL_law_20 : decode cL_law 20 = .ok (.arraylength, 1) := by decide +kernel
theorem dL_law_21 : decode cL_law 21 = .ok (.iconst 4, 1) := by decide +kernel
theorem dL_law_22 : decode cL_law 22 = .ok (.isub, 1) := by decide +kernel
theorem dL_law_23 : decode cL_law 23 = .ok (.if_icmp .gt 675, 3) := by decide +kernel
theorem dL_law_26 : decode cL_law 26 = .ok (.aload_n 0, 1) := by decide +kernel
theorem dL_law_27 : decode cL_law 27 = .ok (.iload_n 3, 1) := by decide +kernel
theorem dL_law_28 : decode cL_law 28 = .ok (.iaload, 1) := by decide +kernel
theorem dL_law_29 : decode cL_law 29 = .ok (.bipush 31, 2) := by decide +kernel
theorem dL_law_31 : decode cL_law 31 = .ok (.iand, 1) := by decide +kernel
theorem dL_law_32 : decode cL_law 32 = .ok (.tableswitch 660 0 21 #[104, 137, 170, 213, 226, 239, 252, 265, 298, 331, 374, 407, 430, 463, 496, 509, 522, 575, 588, 601, 614, 637], 104) := by decide +kernel
theorem dL_law_136 : decode cL_law 136 = .ok (.aload_n 1, 1) := by decide +kernel
theorem dL_law_137 : decode cL_law 137 = .ok (.aload_n 0, 1) := by decide +kernel
theorem dL_law_138 : decode cL_law 138 = .ok (.iload_n 3, 1) := by decide +kernel
theorem dL_law_139 : decode cL_law 139 = .ok (.iconst 1, 1) := by decide +kernel
theorem dL_law_140 : decode cL_law 140 = .ok (.iadd, 1) := by decide +kernel
theorem dL_law_141 : decode cL_law 141 = .ok (.iaload, 1) := by decide +kernel
theorem dL_law_142 : decode cL_law 142 = .ok (.aload_n 0, 1) := by decide +kernel
theorem dL_law_143 : decode cL_law 143 = .ok (.iload_n 3, 1) := by decide +kernel
theorem dL_law_144 : decode cL_law 144 = .ok (.iconst 2, 1) := by decide +kernel
theorem dL_law_145 : decode cL_law 145 = .ok (.iadd, 1) := by decide +kernel
theorem dL_law_146 : decode cL_law 146 = .ok (.iaload, 1) := by decide +kernel
theorem dL_law_147 : decode cL_law 147 = .ok (.invokevirtual 13, 3) := by decide +kernel
theorem dL_law_150 : decode cL_law 150 = .ok (.aload_n 2, 1) := by decide +kernel
theorem dL_law_151 : decode cL_law 151 = .ok (.aload_n 0, 1) := by decide +kernel
theorem dL_law_152 : decode cL_law 152 = .ok (.iload_n 3, 1) := by decide +kernel
theorem dL_law_153 : decode cL_law 153 = .ok (.iconst 1, 1) := by decide +kernel
theorem dL_law_154 : decode cL_law 154 = .ok (.iadd, 1) := by decide +kernel
theorem dL_law_155 : decode cL_law 155 = .ok (.iaload, 1) := by decide +kernel
theorem dL_law_156 : decode cL_law 156 = .ok (.aload_n 0, 1) := by decide +kernel
theorem dL_law_157 : decode cL_law 157 = .ok (.iload_n 3, 1) := by decide +kernel
theorem dL_law_158 : decode cL_law 158 = .ok (.iconst 2, 1) := by decide +kernel
theorem dL_law_159 : decode cL_law 159 = .ok (.iadd, 1) := by decide +kernel
theorem dL_law_160 : decode cL_law 160 = .ok (.iaload, 1) := by decide +kernel
theorem dL_law_161 : decode cL_law 161 = .ok (.invokevirtual 17, 3) := by decide +kernel
theorem dL_law_164 : decode cL_law 164 = .ok (.if_icmp .eq 528, 3) := by decide +kernel
theorem dL_law_167 : decode cL_law 167 = .ok (.iconst 0, 1) := by decide +kernel
theorem dL_law_168 : decode cL_law 168 = .ok (.ireturn, 1) := by decide +kernel
theorem dL_law_169 : decode cL_law 169 = .ok (.aload_n 1, 1) := by decide +kernel
theorem dL_law_170 : decode cL_law 170 = .ok (.aload_n 0, 1) := by decide +kernel
theorem dL_law_171 : decode cL_law 171 = .ok (.iload_n 3, 1) := by decide +kernel
theorem dL_law_172 : decode cL_law 172 = .ok (.iconst 1, 1) := by decide +kernel
theorem dL_law_173 : decode cL_law 173 = .ok (.iadd, 1) := by decide +kernel
theorem dL_law_174 : decode cL_law 174 = .ok (.iaload, 1) := by decide +kernel
theorem dL_law_175 : decode cL_law 175 = .ok (.aload_n 0, 1) := by decide +kernel
theorem dL_law_176 : decode cL_law 176 = .ok (.iload_n 3, 1) := by decide +kernel
theorem dL_law_177 : decode cL_law 177 = .ok (.iconst 2, 1) := by decide +kernel
theorem dL_law_178 : decode cL_law 178 = .ok (.iadd, 1) := by decide +kernel
theorem dL_law_179 : decode cL_law 179 = .ok (.iaload, 1) := by decide +kernel
theorem dL_law_180 : decode cL_law 180 = .ok (.invokevirtual 18, 3) := by decide +kernel
theorem dL_law_183 : decode cL_law 183 = .ok (.aload_n 2, 1) := by decide +kernel
theorem dL_law_184 : decode cL_law 184 = .ok (.aload_n 0, 1) := by decide +kernel
theorem dL_law_185 : decode cL_law 185 = .ok (.iload_n 3, 1) := by decide +kernel
theorem dL_law_186 : decode cL_law 186 = .ok (.iconst 1, 1) := by decide +kernel
theorem dL_law_187 : decode cL_law 187 = .ok (.iadd, 1) := by decide +kernel
theorem dL_law_188 : decode cL_law 188 = .ok (.iaload, 1) := by decide +kernel
theorem dL_law_189 : decode cL_law 189 = .ok (.aload_n 0, 1) := by decide +kernel
theorem dL_law_190 : decode cL_law 190 = .ok (.iload_n 3, 1) := by decide +kernel
theorem dL_law_191 : decode cL_law 191 = .ok (.iconst 2, 1) := by decide +kernel
theorem dL_law_192 : decode cL_law 192 = .ok (.iadd, 1) := by decide +kernel
theorem dL_law_193 : decode cL_law 193 = .ok (.iaload, 1) := by decide +kernel
theorem dL_law_194 : decode cL_law 194 = .ok (.invokevirtual 21, 3) := by decide +kernel
theorem dL_law_197 : decode cL_law 197 = .ok (.if_icmp .eq 495, 3) := by decide +kernel
theorem dL_law_200 : decode cL_law 200 = .ok (.iconst 0, 1) := by decide +kernel
theorem dL_law_201 : decode cL_law 201 = .ok (.ireturn, 1) := by decide +kernel
theorem dL_law_202 : decode cL_law 202 = .ok (.aload_n 1, 1) := by decide +kernel
theorem dL_law_203 : decode cL_law 203 = .ok (.aload_n 0, 1) := by decide +kernel
theorem dL_law_204 : decode cL_law 204 = .ok (.iload_n 3, 1) := by decide +kernel
theorem dL_law_205 : decode cL_law 205 = .ok (.iconst 1, 1) := by decide +kernel
theorem dL_law_206 : decode cL_law 206 = .ok (.iadd, 1) := by decide +kernel
theorem dL_law_207 : decode cL_law 207 = .ok (.iaload, 1) := by decide +kernel
theorem dL_law_208 : decode cL_law 208 = .ok (.aload_n 0, 1) := by decide +kernel
theorem dL_law_209 : decode cL_law 209 = .ok (.iload_n 3, 1) := by decide +kernel
theorem dL_law_210 : decode cL_law 210 = .ok (.iconst 2, 1) := by decide +kernel
theorem dL_law_211 : decode cL_law 211 = .ok (.iadd, 1) := by decide +kernel
theorem dL_law_212 : decode cL_law 212 = .ok (.iaload, 1) := by decide +kernel
theorem dL_law_213 : decode cL_law 213 = .ok (.aload_n 0, 1) := by decide +kernel
theorem dL_law_214 : decode cL_law 214 = .ok (.iload_n 3, 1) := by decide +kernel
theorem dL_law_215 : decode cL_law 215 = .ok (.iconst 3, 1) := by decide +kernel
theorem dL_law_216 : decode cL_law 216 = .ok (.iadd, 1) := by decide +kernel
theorem dL_law_217 : decode cL_law 217 = .ok (.iaload, 1) := by decide +kernel
theorem dL_law_218 : decode cL_law 218 = .ok (.invokevirtual 22, 3) := by decide +kernel
theorem dL_law_221 : decode cL_law 221 = .ok (.aload_n 2, 1) := by decide +kernel
theorem dL_law_222 : decode cL_law 222 = .ok (.aload_n 0, 1) := by decide +kernel
theorem dL_law_223 : decode cL_law 223 = .ok (.iload_n 3, 1) := by decide +kernel
theorem dL_law_224 : decode cL_law 224 = .ok (.iconst 1, 1) := by decide +kernel
theorem dL_law_225 : decode cL_law 225 = .ok (.iadd, 1) := by decide +kernel
theorem dL_law_226 : decode cL_law 226 = .ok (.iaload, 1) := by decide +kernel
theorem dL_law_227 : decode cL_law 227 = .ok (.aload_n 0, 1) := by decide +kernel
theorem dL_law_228 : decode cL_law 228 = .ok (.iload_n 3, 1) := by decide +kernel
theorem dL_law_229 : decode cL_law 229 = .ok (.iconst 2, 1) := by decide +kernel
theorem dL_law_230 : decode cL_law 230 = .ok (.iadd, 1) := by decide +kernel
theorem dL_law_231 : decode cL_law 231 = .ok (.iaload, 1) := by decide +kernel
theorem dL_law_232 : decode cL_law 232 = .ok (.aload_n 0, 1) := by decide +kernel
theorem dL_law_233 : decode cL_law 233 = .ok (.iload_n 3, 1) := by decide +kernel
theorem dL_law_234 : decode cL_law 234 = .ok (.iconst 3, 1) := by decide +kernel
theorem dL_law_235 : decode cL_law 235 = .ok (.iadd, 1) := by decide +kernel
theorem dL_law_236 : decode cL_law 236 = .ok (.iaload, 1) := by decide +kernel
theorem dL_law_237 : decode cL_law 237 = .ok (.invokevirtual 26, 3) := by decide +kernel
theorem dL_law_240 : decode cL_law 240 = .ok (.if_icmp .eq 452, 3) := by decide +kernel
theorem dL_law_243 : decode cL_law 243 = .ok (.iconst 0, 1) := by decide +kernel
theorem dL_law_244 : decode cL_law 244 = .ok (.ireturn, 1) := by decide +kernel
theorem dL_law_245 : decode cL_law 245 = .ok (.aload_n 1, 1) := by decide +kernel
theorem dL_law_246 : decode cL_law 246 = .ok (.invokevirtual 27, 3) := by decide +kernel
theorem dL_law_249 : decode cL_law 249 = .ok (.aload_n 2, 1) := by decide +kernel
theorem dL_law_250 : decode cL_law 250 = .ok (.invokevirtual 31, 3) := by decide +kernel
theorem dL_law_253 : decode cL_law 253 = .ok (.if_icmp .eq 439, 3) := by decide +kernel
theorem dL_law_256 : decode cL_law 256 = .ok (.iconst 0, 1) := by decide +kernel
theorem dL_law_257 : decode cL_law 257 = .ok (.ireturn, 1) := by decide +kernel
theorem dL_law_258 : decode cL_law 258 = .ok (.aload_n 1, 1) := by decide +kernel
theorem dL_law_259 : decode cL_law 259 = .ok (.invokevirtual 32, 3) := by decide +kernel
theorem dL_law_262 : decode cL_law 262 = .ok (.aload_n 2, 1) := by decide +kernel
theorem dL_law_263 : decode cL_law 263 = .ok (.invokevirtual 35, 3) := by decide +kernel
theorem dL_law_266 : decode cL_law 266 = .ok (.if_icmp .eq 426, 3) := by decide +kernel
theorem dL_law_269 : decode cL_law 269 = .ok (.iconst 0, 1) := by decide +kernel
theorem dL_law_270 : decode cL_law 270 = .ok (.ireturn, 1) := by decide +kernel
theorem dL_law_271 : decode cL_law 271 = .ok (.aload_n 1, 1) := by decide +kernel
theorem dL_law_272 : decode cL_law 272 = .ok (.invokevirtual 36, 3) := by decide +kernel
theorem dL_law_275 : decode cL_law 275 = .ok (.aload_n 2, 1) := by decide +kernel
theorem dL_law_276 : decode cL_law 276 = .ok (.invokevirtual 39, 3) := by decide +kernel
theorem dL_law_279 : decode cL_law 279 = .ok (.if_icmp .eq 413, 3) := by decide +kernel
theorem dL_law_282 : decode cL_law 282 = .ok (.iconst 0, 1) := by decide +kernel
theorem dL_law_283 : decode cL_law 283 = .ok (.ireturn, 1) := by decide +kernel
theorem dL_law_284 : decode cL_law 284 = .ok (.aload_n 1, 1) := by decide +kernel
theorem dL_law_285 : decode cL_law 285 = .ok (.invokevirtual 40, 3) := by decide +kernel
theorem dL_law_288 : decode cL_law 288 = .ok (.aload_n 2, 1) := by decide +kernel
theorem dL_law_289 : decode cL_law 289 = .ok (.invokevirtual 43, 3) := by decide +kernel
theorem dL_law_292 : decode cL_law 292 = .ok (.if_icmp .eq 400, 3) := by decide +kernel
theorem dL_law_295 : decode cL_law 295 = .ok (.iconst 0, 1) := by decide +kernel
theorem dL_law_296 : decode cL_law 296 = .ok (.ireturn, 1) := by decide +kernel
theorem dL_law_297 : decode cL_law 297 = .ok (.aload_n 1, 1) := by decide +kernel
theorem dL_law_298 : decode cL_law 298 = .ok (.aload_n 0, 1) := by decide +kernel
theorem dL_law_299 : decode cL_law 299 = .ok (.iload_n 3, 1) := by decide +kernel
theorem dL_law_300 : decode cL_law 300 = .ok (.iconst 1, 1) := by decide +kernel
theorem dL_law_301 : decode cL_law 301 = .ok (.iadd, 1) := by decide +kernel
theorem dL_law_302 : decode cL_law 302 = .ok (.iaload, 1) := by decide +kernel
theorem dL_law_303 : decode cL_law 303 = .ok (.aload_n 0, 1) := by decide +kernel
theorem dL_law_304 : decode cL_law 304 = .ok (.iload_n 3, 1) := by decide +kernel
theorem dL_law_305 : decode cL_law 305 = .ok (.iconst 2, 1) := by decide +kernel
theorem dL_law_306 : decode cL_law 306 = .ok (.iadd, 1) := by decide +kernel
theorem dL_law_307 : decode cL_law 307 = .ok (.iaload, 1) := by decide +kernel
theorem dL_law_308 : decode cL_law 308 = .ok (.invokevirtual 44, 3) := by decide +kernel
theorem dL_law_311 : decode cL_law 311 = .ok (.aload_n 2, 1) := by decide +kernel
theorem dL_law_312 : decode cL_law 312 = .ok (.aload_n 0, 1) := by decide +kernel
theorem dL_law_313 : decode cL_law 313 = .ok (.iload_n 3, 1) := by decide +kernel
theorem dL_law_314 : decode cL_law 314 = .ok (.iconst 1, 1) := by decide +kernel
theorem dL_law_315 : decode cL_law 315 = .ok (.iadd, 1) := by decide +kernel
theorem dL_law_316 : decode cL_law 316 = .ok (.iaload, 1) := by decide +kernel
theorem dL_law_317 : decode cL_law 317 = .ok (.aload_n 0, 1) := by decide +kernel
theorem dL_law_318 : decode cL_law 318 = .ok (.iload_n 3, 1) := by decide +kernel
theorem dL_law_319 : decode cL_law 319 = .ok (.iconst 2, 1) := by decide +kernel
theorem dL_law_320 : decode cL_law 320 = .ok (.iadd, 1) := by decide +kernel
theorem dL_law_321 : decode cL_law 321 = .ok (.iaload, 1) := by decide +kernel
theorem dL_law_322 : decode cL_law 322 = .ok (.invokevirtual 47, 3) := by decide +kernel
theorem dL_law_325 : decode cL_law 325 = .ok (.if_icmp .eq 367, 3) := by decide +kernel
theorem dL_law_328 : decode cL_law 328 = .ok (.iconst 0, 1) := by decide +kernel
theorem dL_law_329 : decode cL_law 329 = .ok (.ireturn, 1) := by decide +kernel
theorem dL_law_330 : decode cL_law 330 = .ok (.aload_n 1, 1) := by decide +kernel
theorem dL_law_331 : decode cL_law 331 = .ok (.aload_n 0, 1) := by decide +kernel
theorem dL_law_332 : decode cL_law 332 = .ok (.iload_n 3, 1) := by decide +kernel
theorem dL_law_333 : decode cL_law 333 = .ok (.iconst 1, 1) := by decide +kernel
theorem dL_law_334 : decode cL_law 334 = .ok (.iadd, 1) := by decide +kernel
theorem dL_law_335 : decode cL_law 335 = .ok (.iaload, 1) := by decide +kernel
theorem dL_law_336 : decode cL_law 336 = .ok (.aload_n 0, 1) := by decide +kernel
theorem dL_law_337 : decode cL_law 337 = .ok (.iload_n 3, 1) := by decide +kernel
theorem dL_law_338 : decode cL_law 338 = .ok (.iconst 2, 1) := by decide +kernel
theorem dL_law_339 : decode cL_law 339 = .ok (.iadd, 1) := by decide +kernel
theorem dL_law_340 : decode cL_law 340 = .ok (.iaload, 1) := by decide +kernel
theorem dL_law_341 : decode cL_law 341 = .ok (.invokevirtual 48, 3) := by decide +kernel
theorem dL_law_344 : decode cL_law 344 = .ok (.aload_n 2, 1) := by decide +kernel
theorem dL_law_345 : decode cL_law 345 = .ok (.aload_n 0, 1) := by decide +kernel
theorem dL_law_346 : decode cL_law 346 = .ok (.iload_n 3, 1) := by decide +kernel
theorem dL_law_347 : decode cL_law 347 = .ok (.iconst 1, 1) := by decide +kernel
theorem dL_law_348 : decode cL_law 348 = .ok (.iadd, 1) := by decide +kernel
theorem dL_law_349 : decode cL_law 349 = .ok (.iaload, 1) := by decide +kernel
theorem dL_law_350 : decode cL_law 350 = .ok (.aload_n 0, 1) := by decide +kernel
theorem dL_law_351 : decode cL_law 351 = .ok (.iload_n 3, 1) := by decide +kernel
theorem dL_law_352 : decode cL_law 352 = .ok (.iconst 2, 1) := by decide +kernel
theorem dL_law_353 : decode cL_law 353 = .ok (.iadd, 1) := by decide +kernel
theorem dL_law_354 : decode cL_law 354 = .ok (.iaload, 1) := by decide +kernel
theorem dL_law_355 : decode cL_law 355 = .ok (.invokevirtual 51, 3) := by decide +kernel
theorem dL_law_358 : decode cL_law 358 = .ok (.if_icmp .eq 334, 3) := by decide +kernel
theorem dL_law_361 : decode cL_law 361 = .ok (.iconst 0, 1) := by decide +kernel
theorem dL_law_362 : decode cL_law 362 = .ok (.ireturn, 1) := by decide +kernel
theorem dL_law_363 : decode cL_law 363 = .ok (.aload_n 1, 1) := by decide +kernel
theorem dL_law_364 : decode cL_law 364 = .ok (.aload_n 0, 1) := by decide +kernel
theorem dL_law_365 : decode cL_law 365 = .ok (.iload_n 3, 1) := by decide +kernel
theorem dL_law_366 : decode cL_law 366 = .ok (.iconst 1, 1) := by decide +kernel
theorem dL_law_367 : decode cL_law 367 = .ok (.iadd, 1) := by decide +kernel
theorem dL_law_368 : decode cL_law 368 = .ok (.iaload, 1) := by decide +kernel
theorem dL_law_369 : decode cL_law 369 = .ok (.aload_n 0, 1) := by decide +kernel
theorem dL_law_370 : decode cL_law 370 = .ok (.iload_n 3, 1) := by decide +kernel
theorem dL_law_371 : decode cL_law 371 = .ok (.iconst 2, 1) := by decide +kernel
theorem dL_law_372 : decode cL_law 372 = .ok (.iadd, 1) := by decide +kernel
theorem dL_law_373 : decode cL_law 373 = .ok (.iaload, 1) := by decide +kernel
theorem dL_law_374 : decode cL_law 374 = .ok (.aload_n 0, 1) := by decide +kernel
theorem dL_law_375 : decode cL_law 375 = .ok (.iload_n 3, 1) := by decide +kernel
theorem dL_law_376 : decode cL_law 376 = .ok (.iconst 3, 1) := by decide +kernel
theorem dL_law_377 : decode cL_law 377 = .ok (.iadd, 1) := by decide +kernel
theorem dL_law_378 : decode cL_law 378 = .ok (.iaload, 1) := by decide +kernel
theorem dL_law_379 : decode cL_law 379 = .ok (.invokevirtual 52, 3) := by decide +kernel
theorem dL_law_382 : decode cL_law 382 = .ok (.aload_n 2, 1) := by decide +kernel
theorem dL_law_383 : decode cL_law 383 = .ok (.aload_n 0, 1) := by decide +kernel
theorem dL_law_384 : decode cL_law 384 = .ok (.iload_n 3, 1) := by decide +kernel
theorem dL_law_385 : decode cL_law 385 = .ok (.iconst 1, 1) := by decide +kernel
theorem dL_law_386 : decode cL_law 386 = .ok (.iadd, 1) := by decide +kernel
theorem dL_law_387 : decode cL_law 387 = .ok (.iaload, 1) := by decide +kernel
theorem dL_law_388 : decode cL_law 388 = .ok (.aload_n 0, 1) := by decide +kernel
theorem dL_law_389 : decode cL_law 389 = .ok (.iload_n 3, 1) := by decide +kernel
theorem dL_law_390 : decode cL_law 390 = .ok (.iconst 2, 1) := by decide +kernel
theorem dL_law_391 : decode cL_law 391 = .ok (.iadd, 1) := by decide +kernel
theorem dL_law_392 : decode cL_law 392 = .ok (.iaload, 1) := by decide +kernel
theorem dL_law_393 : decode cL_law 393 = .ok (.aload_n 0, 1) := by decide +kernel
theorem dL_law_394 : decode cL_law 394 = .ok (.iload_n 3, 1) := by decide +kernel
theorem dL_law_395 : decode cL_law 395 = .ok (.iconst 3, 1) := by decide +kernel
theorem dL_law_396 : decode cL_law 396 = .ok (.iadd, 1) := by decide +kernel
theorem dL_law_397 : decode cL_law 397 = .ok (.iaload, 1) := by decide +kernel
theorem dL_law_398 : decode cL_law 398 = .ok (.invokevirtual 55, 3) := by decide +kernel
theorem dL_law_401 : decode cL_law 401 = .ok (.if_icmp .eq 291, 3) := by decide +kernel
theorem dL_law_404 : decode cL_law 404 = .ok (.iconst 0, 1) := by decide +kernel
theorem dL_law_405 : decode cL_law 405 = .ok (.ireturn, 1) := by decide +kernel
theorem dL_law_406 : decode cL_law 406 = .ok (.aload_n 1, 1) := by decide +kernel
theorem dL_law_407 : decode cL_law 407 = .ok (.aload_n 0, 1) := by decide +kernel
theorem dL_law_408 : decode cL_law 408 = .ok (.iload_n 3, 1) := by decide +kernel
theorem dL_law_409 : decode cL_law 409 = .ok (.iconst 1, 1) := by decide +kernel
theorem dL_law_410 : decode cL_law 410 = .ok (.iadd, 1) := by decide +kernel
theorem dL_law_411 : decode cL_law 411 = .ok (.iaload, 1) := by decide +kernel
theorem dL_law_412 : decode cL_law 412 = .ok (.aload_n 0, 1) := by decide +kernel
theorem dL_law_413 : decode cL_law 413 = .ok (.iload_n 3, 1) := by decide +kernel
theorem dL_law_414 : decode cL_law 414 = .ok (.iconst 2, 1) := by decide +kernel
theorem dL_law_415 : decode cL_law 415 = .ok (.iadd, 1) := by decide +kernel
theorem dL_law_416 : decode cL_law 416 = .ok (.iaload, 1) := by decide +kernel
theorem dL_law_417 : decode cL_law 417 = .ok (.invokevirtual 56, 3) := by decide +kernel
theorem dL_law_420 : decode cL_law 420 = .ok (.aload_n 2, 1) := by decide +kernel
theorem dL_law_421 : decode cL_law 421 = .ok (.aload_n 0, 1) := by decide +kernel
theorem dL_law_422 : decode cL_law 422 = .ok (.iload_n 3, 1) := by decide +kernel
theorem dL_law_423 : decode cL_law 423 = .ok (.iconst 1, 1) := by decide +kernel
theorem dL_law_424 : decode cL_law 424 = .ok (.iadd, 1) := by decide +kernel
theorem dL_law_425 : decode cL_law 425 = .ok (.iaload, 1) := by decide +kernel
theorem dL_law_426 : decode cL_law 426 = .ok (.aload_n 0, 1) := by decide +kernel
theorem dL_law_427 : decode cL_law 427 = .ok (.iload_n 3, 1) := by decide +kernel
theorem dL_law_428 : decode cL_law 428 = .ok (.iconst 2, 1) := by decide +kernel
theorem dL_law_429 : decode cL_law 429 = .ok (.iadd, 1) := by decide +kernel
theorem dL_law_430 : decode cL_law 430 = .ok (.iaload, 1) := by decide +kernel
theorem dL_law_431 : decode cL_law 431 = .ok (.invokevirtual 59, 3) := by decide +kernel
theorem dL_law_434 : decode cL_law 434 = .ok (.if_icmp .eq 258, 3) := by decide +kernel
theorem dL_law_437 : decode cL_law 437 = .ok (.iconst 0, 1) := by decide +kernel
theorem dL_law_438 : decode cL_law 438 = .ok (.ireturn, 1) := by decide +kernel
theorem dL_law_439 : decode cL_law 439 = .ok (.aload_n 1, 1) := by decide +kernel
theorem dL_law_440 : decode cL_law 440 = .ok (.aload_n 0, 1) := by decide +kernel
theorem dL_law_441 : decode cL_law 441 = .ok (.iload_n 3, 1) := by decide +kernel
theorem dL_law_442 : decode cL_law 442 = .ok (.iconst 1, 1) := by decide +kernel
theorem dL_law_443 : decode cL_law 443 = .ok (.iadd, 1) := by decide +kernel
theorem dL_law_444 : decode cL_law 444 = .ok (.iaload, 1) := by decide +kernel
theorem dL_law_445 : decode cL_law 445 = .ok (.invokevirtual 60, 3) := by decide +kernel
theorem dL_law_448 : decode cL_law 448 = .ok (.aload_n 2, 1) := by decide +kernel
theorem dL_law_449 : decode cL_law 449 = .ok (.aload_n 0, 1) := by decide +kernel
theorem dL_law_450 : decode cL_law 450 = .ok (.iload_n 3, 1) := by decide +kernel
theorem dL_law_451 : decode cL_law 451 = .ok (.iconst 1, 1) := by decide +kernel
theorem dL_law_452 : decode cL_law 452 = .ok (.iadd, 1) := by decide +kernel
theorem dL_law_453 : decode cL_law 453 = .ok (.iaload, 1) := by decide +kernel
theorem dL_law_454 : decode cL_law 454 = .ok (.invokevirtual 64, 3) := by decide +kernel
theorem dL_law_457 : decode cL_law 457 = .ok (.if_icmp .eq 235, 3) := by decide +kernel
theorem dL_law_460 : decode cL_law 460 = .ok (.iconst 0, 1) := by decide +kernel
theorem dL_law_461 : decode cL_law 461 = .ok (.ireturn, 1) := by decide +kernel
theorem dL_law_462 : decode cL_law 462 = .ok (.aload_n 1, 1) := by decide +kernel
theorem dL_law_463 : decode cL_law 463 = .ok (.aload_n 0, 1) := by decide +kernel
theorem dL_law_464 : decode cL_law 464 = .ok (.iload_n 3, 1) := by decide +kernel
theorem dL_law_465 : decode cL_law 465 = .ok (.iconst 1, 1) := by decide +kernel
theorem dL_law_466 : decode cL_law 466 = .ok (.iadd, 1) := by decide +kernel
theorem dL_law_467 : decode cL_law 467 = .ok (.iaload, 1) := by decide +kernel
theorem dL_law_468 : decode cL_law 468 = .ok (.aload_n 0, 1) := by decide +kernel
theorem dL_law_469 : decode cL_law 469 = .ok (.iload_n 3, 1) := by decide +kernel
theorem dL_law_470 : decode cL_law 470 = .ok (.iconst 2, 1) := by decide +kernel
theorem dL_law_471 : decode cL_law 471 = .ok (.iadd, 1) := by decide +kernel
theorem dL_law_472 : decode cL_law 472 = .ok (.iaload, 1) := by decide +kernel
theorem dL_law_473 : decode cL_law 473 = .ok (.invokevirtual 65, 3) := by decide +kernel
theorem dL_law_476 : decode cL_law 476 = .ok (.aload_n 2, 1) := by decide +kernel
theorem dL_law_477 : decode cL_law 477 = .ok (.aload_n 0, 1) := by decide +kernel
theorem dL_law_478 : decode cL_law 478 = .ok (.iload_n 3, 1) := by decide +kernel
theorem dL_law_479 : decode cL_law 479 = .ok (.iconst 1, 1) := by decide +kernel
theorem dL_law_480 : decode cL_law 480 = .ok (.iadd, 1) := by decide +kernel
theorem dL_law_481 : decode cL_law 481 = .ok (.iaload, 1) := by decide +kernel
theorem dL_law_482 : decode cL_law 482 = .ok (.aload_n 0, 1) := by decide +kernel
theorem dL_law_483 : decode cL_law 483 = .ok (.iload_n 3, 1) := by decide +kernel
theorem dL_law_484 : decode cL_law 484 = .ok (.iconst 2, 1) := by decide +kernel
theorem dL_law_485 : decode cL_law 485 = .ok (.iadd, 1) := by decide +kernel
theorem dL_law_486 : decode cL_law 486 = .ok (.iaload, 1) := by decide +kernel
theorem dL_law_487 : decode cL_law 487 = .ok (.invokevirtual 68, 3) := by decide +kernel
theorem dL_law_490 : decode cL_law 490 = .ok (.if_icmp .eq 202, 3) := by decide +kernel
theorem dL_law_493 : decode cL_law 493 = .ok (.iconst 0, 1) := by decide +kernel
theorem dL_law_494 : decode cL_law 494 = .ok (.ireturn, 1) := by decide +kernel
theorem dL_law_495 : decode cL_law 495 = .ok (.aload_n 1, 1) := by decide +kernel
theorem dL_law_496 : decode cL_law 496 = .ok (.aload_n 0, 1) := by decide +kernel
theorem dL_law_497 : decode cL_law 497 = .ok (.iload_n 3, 1) := by decide +kernel
theorem dL_law_498 : decode cL_law 498 = .ok (.iconst 1, 1) := by decide +kernel
theorem dL_law_499 : decode cL_law 499 = .ok (.iadd, 1) := by decide +kernel
theorem dL_law_500 : decode cL_law 500 = .ok (.iaload, 1) := by decide +kernel
theorem dL_law_501 : decode cL_law 501 = .ok (.aload_n 0, 1) := by decide +kernel
theorem dL_law_502 : decode cL_law 502 = .ok (.iload_n 3, 1) := by decide +kernel
theorem dL_law_503 : decode cL_law 503 = .ok (.iconst 2, 1) := by decide +kernel
theorem dL_law_504 : decode cL_law 504 = .ok (.iadd, 1) := by decide +kernel
theorem dL_law_505 : decode cL_law 505 = .ok (.iaload, 1) := by decide +kernel
theorem dL_law_506 : decode cL_law 506 = .ok (.invokevirtual 69, 3) := by decide +kernel
theorem dL_law_509 : decode cL_law 509 = .ok (.aload_n 2, 1) := by decide +kernel
theorem dL_law_510 : decode cL_law 510 = .ok (.aload_n 0, 1) := by decide +kernel
theorem dL_law_511 : decode cL_law 511 = .ok (.iload_n 3, 1) := by decide +kernel
theorem dL_law_512 : decode cL_law 512 = .ok (.iconst 1, 1) := by decide +kernel
theorem dL_law_513 : decode cL_law 513 = .ok (.iadd, 1) := by decide +kernel
theorem dL_law_514 : decode cL_law 514 = .ok (.iaload, 1) := by decide +kernel
theorem dL_law_515 : decode cL_law 515 = .ok (.aload_n 0, 1) := by decide +kernel
theorem dL_law_516 : decode cL_law 516 = .ok (.iload_n 3, 1) := by decide +kernel
theorem dL_law_517 : decode cL_law 517 = .ok (.iconst 2, 1) := by decide +kernel
theorem dL_law_518 : decode cL_law 518 = .ok (.iadd, 1) := by decide +kernel
theorem dL_law_519 : decode cL_law 519 = .ok (.iaload, 1) := by decide +kernel
theorem dL_law_520 : decode cL_law 520 = .ok (.invokevirtual 72, 3) := by decide +kernel
theorem dL_law_523 : decode cL_law 523 = .ok (.if_icmp .eq 169, 3) := by decide +kernel
theorem dL_law_526 : decode cL_law 526 = .ok (.iconst 0, 1) := by decide +kernel
theorem dL_law_527 : decode cL_law 527 = .ok (.ireturn, 1) := by decide +kernel
theorem dL_law_528 : decode cL_law 528 = .ok (.aload_n 1, 1) := by decide +kernel
theorem dL_law_529 : decode cL_law 529 = .ok (.invokevirtual 73, 3) := by decide +kernel
theorem dL_law_532 : decode cL_law 532 = .ok (.aload_n 2, 1) := by decide +kernel
theorem dL_law_533 : decode cL_law 533 = .ok (.invokevirtual 76, 3) := by decide +kernel
theorem dL_law_536 : decode cL_law 536 = .ok (.if_icmp .eq 156, 3) := by decide +kernel
theorem dL_law_539 : decode cL_law 539 = .ok (.iconst 0, 1) := by decide +kernel
theorem dL_law_540 : decode cL_law 540 = .ok (.ireturn, 1) := by decide +kernel
theorem dL_law_541 : decode cL_law 541 = .ok (.aload_n 1, 1) := by decide +kernel
theorem dL_law_542 : decode cL_law 542 = .ok (.invokevirtual 77, 3) := by decide +kernel
theorem dL_law_545 : decode cL_law 545 = .ok (.aload_n 2, 1) := by decide +kernel
theorem dL_law_546 : decode cL_law 546 = .ok (.invokevirtual 80, 3) := by decide +kernel
theorem dL_law_549 : decode cL_law 549 = .ok (.if_icmp .eq 143, 3) := by decide +kernel
theorem dL_law_552 : decode cL_law 552 = .ok (.iconst 0, 1) := by decide +kernel
theorem dL_law_553 : decode cL_law 553 = .ok (.ireturn, 1) := by decide +kernel
theorem dL_law_554 : decode cL_law 554 = .ok (.aload_n 1, 1) := by decide +kernel
theorem dL_law_555 : decode cL_law 555 = .ok (.aload_n 0, 1) := by decide +kernel
theorem dL_law_556 : decode cL_law 556 = .ok (.iload_n 3, 1) := by decide +kernel
theorem dL_law_557 : decode cL_law 557 = .ok (.iconst 1, 1) := by decide +kernel
theorem dL_law_558 : decode cL_law 558 = .ok (.iadd, 1) := by decide +kernel
theorem dL_law_559 : decode cL_law 559 = .ok (.iaload, 1) := by decide +kernel
theorem dL_law_560 : decode cL_law 560 = .ok (.i2l, 1) := by decide +kernel
theorem dL_law_561 : decode cL_law 561 = .ok (.bipush 32, 2) := by decide +kernel
theorem dL_law_563 : decode cL_law 563 = .ok (.lshl, 1) := by decide +kernel
theorem dL_law_564 : decode cL_law 564 = .ok (.aload_n 0, 1) := by decide +kernel
theorem dL_law_565 : decode cL_law 565 = .ok (.iload_n 3, 1) := by decide +kernel
theorem dL_law_566 : decode cL_law 566 = .ok (.iconst 2, 1) := by decide +kernel
theorem dL_law_567 : decode cL_law 567 = .ok (.iadd, 1) := by decide +kernel
theorem dL_law_568 : decode cL_law 568 = .ok (.iaload, 1) := by decide +kernel
theorem dL_law_569 : decode cL_law 569 = .ok (.i2l, 1) := by decide +kernel
theorem dL_law_570 : decode cL_law 570 = .ok (.ldc2_w 81, 3) := by decide +kernel
theorem dL_law_573 : decode cL_law 573 = .ok (.land, 1) := by decide +kernel
theorem dL_law_574 : decode cL_law 574 = .ok (.lor, 1) := by decide +kernel
theorem dL_law_575 : decode cL_law 575 = .ok (.invokevirtual 83, 3) := by decide +kernel
theorem dL_law_578 : decode cL_law 578 = .ok (.aload_n 2, 1) := by decide +kernel
theorem dL_law_579 : decode cL_law 579 = .ok (.aload_n 0, 1) := by decide +kernel
theorem dL_law_580 : decode cL_law 580 = .ok (.iload_n 3, 1) := by decide +kernel
theorem dL_law_581 : decode cL_law 581 = .ok (.iconst 1, 1) := by decide +kernel
theorem dL_law_582 : decode cL_law 582 = .ok (.iadd, 1) := by decide +kernel
theorem dL_law_583 : decode cL_law 583 = .ok (.iaload, 1) := by decide +kernel
theorem dL_law_584 : decode cL_law 584 = .ok (.i2l, 1) := by decide +kernel
theorem dL_law_585 : decode cL_law 585 = .ok (.bipush 32, 2) := by decide +kernel
theorem dL_law_587 : decode cL_law 587 = .ok (.lshl, 1) := by decide +kernel
theorem dL_law_588 : decode cL_law 588 = .ok (.aload_n 0, 1) := by decide +kernel
theorem dL_law_589 : decode cL_law 589 = .ok (.iload_n 3, 1) := by decide +kernel
theorem dL_law_590 : decode cL_law 590 = .ok (.iconst 2, 1) := by decide +kernel
theorem dL_law_591 : decode cL_law 591 = .ok (.iadd, 1) := by decide +kernel
theorem dL_law_592 : decode cL_law 592 = .ok (.iaload, 1) := by decide +kernel
theorem dL_law_593 : decode cL_law 593 = .ok (.i2l, 1) := by decide +kernel
theorem dL_law_594 : decode cL_law 594 = .ok (.ldc2_w 81, 3) := by decide +kernel
theorem dL_law_597 : decode cL_law 597 = .ok (.land, 1) := by decide +kernel
theorem dL_law_598 : decode cL_law 598 = .ok (.lor, 1) := by decide +kernel
theorem dL_law_599 : decode cL_law 599 = .ok (.invokevirtual 87, 3) := by decide +kernel
theorem dL_law_602 : decode cL_law 602 = .ok (.if_icmp .eq 90, 3) := by decide +kernel
theorem dL_law_605 : decode cL_law 605 = .ok (.iconst 0, 1) := by decide +kernel
theorem dL_law_606 : decode cL_law 606 = .ok (.ireturn, 1) := by decide +kernel
theorem dL_law_607 : decode cL_law 607 = .ok (.aload_n 1, 1) := by decide +kernel
theorem dL_law_608 : decode cL_law 608 = .ok (.invokevirtual 88, 3) := by decide +kernel
theorem dL_law_611 : decode cL_law 611 = .ok (.aload_n 2, 1) := by decide +kernel
theorem dL_law_612 : decode cL_law 612 = .ok (.invokevirtual 91, 3) := by decide +kernel
theorem dL_law_615 : decode cL_law 615 = .ok (.if_icmp .eq 77, 3) := by decide +kernel
theorem dL_law_618 : decode cL_law 618 = .ok (.iconst 0, 1) := by decide +kernel
theorem dL_law_619 : decode cL_law 619 = .ok (.ireturn, 1) := by decide +kernel
theorem dL_law_620 : decode cL_law 620 = .ok (.aload_n 1, 1) := by decide +kernel
theorem dL_law_621 : decode cL_law 621 = .ok (.invokevirtual 92, 3) := by decide +kernel
theorem dL_law_624 : decode cL_law 624 = .ok (.aload_n 2, 1) := by decide +kernel
theorem dL_law_625 : decode cL_law 625 = .ok (.invokevirtual 95, 3) := by decide +kernel
theorem dL_law_628 : decode cL_law 628 = .ok (.if_icmp .eq 64, 3) := by decide +kernel
theorem dL_law_631 : decode cL_law 631 = .ok (.iconst 0, 1) := by decide +kernel
theorem dL_law_632 : decode cL_law 632 = .ok (.ireturn, 1) := by decide +kernel
theorem dL_law_633 : decode cL_law 633 = .ok (.aload_n 1, 1) := by decide +kernel
theorem dL_law_634 : decode cL_law 634 = .ok (.invokevirtual 96, 3) := by decide +kernel
theorem dL_law_637 : decode cL_law 637 = .ok (.aload_n 2, 1) := by decide +kernel
theorem dL_law_638 : decode cL_law 638 = .ok (.invokevirtual 99, 3) := by decide +kernel
theorem dL_law_641 : decode cL_law 641 = .ok (.if_icmp .eq 51, 3) := by decide +kernel
theorem dL_law_644 : decode cL_law 644 = .ok (.iconst 0, 1) := by decide +kernel
theorem dL_law_645 : decode cL_law 645 = .ok (.ireturn, 1) := by decide +kernel
theorem dL_law_646 : decode cL_law 646 = .ok (.aload_n 1, 1) := by decide +kernel
theorem dL_law_647 : decode cL_law 647 = .ok (.aload_n 0, 1) := by decide +kernel
theorem dL_law_648 : decode cL_law 648 = .ok (.iload_n 3, 1) := by decide +kernel
theorem dL_law_649 : decode cL_law 649 = .ok (.iconst 1, 1) := by decide +kernel
theorem dL_law_650 : decode cL_law 650 = .ok (.iadd, 1) := by decide +kernel
theorem dL_law_651 : decode cL_law 651 = .ok (.iaload, 1) := by decide +kernel
theorem dL_law_652 : decode cL_law 652 = .ok (.invokevirtual 100, 3) := by decide +kernel
theorem dL_law_655 : decode cL_law 655 = .ok (.aload_n 2, 1) := by decide +kernel
theorem dL_law_656 : decode cL_law 656 = .ok (.aload_n 0, 1) := by decide +kernel
theorem dL_law_657 : decode cL_law 657 = .ok (.iload_n 3, 1) := by decide +kernel
theorem dL_law_658 : decode cL_law 658 = .ok (.iconst 1, 1) := by decide +kernel
theorem dL_law_659 : decode cL_law 659 = .ok (.iadd, 1) := by decide +kernel
theorem dL_law_660 : decode cL_law 660 = .ok (.iaload, 1) := by decide +kernel
theorem dL_law_661 : decode cL_law 661 = .ok (.invokevirtual 103, 3) := by decide +kernel
theorem dL_law_664 : decode cL_law 664 = .ok (.if_icmp .eq 28, 3) := by decide +kernel
theorem dL_law_667 : decode cL_law 667 = .ok (.iconst 0, 1) := by decide +kernel
theorem dL_law_668 : decode cL_law 668 = .ok (.ireturn, 1) := by decide +kernel
theorem dL_law_669 : decode cL_law 669 = .ok (.aload_n 1, 1) := by decide +kernel
theorem dL_law_670 : decode cL_law 670 = .ok (.aload_n 0, 1) := by decide +kernel
theorem dL_law_671 : decode cL_law 671 = .ok (.iload_n 3, 1) := by decide +kernel
theorem dL_law_672 : decode cL_law 672 = .ok (.iconst 1, 1) := by decide +kernel
theorem dL_law_673 : decode cL_law 673 = .ok (.iadd, 1) := by decide +kernel
theorem dL_law_674 : decode cL_law 674 = .ok (.iaload, 1) := by decide +kernel
theorem dL_law_675 : decode cL_law 675 = .ok (.invokevirtual 104, 3) := by decide +kernel
theorem dL_law_678 : decode cL_law 678 = .ok (.aload_n 2, 1) := by decide +kernel
theorem dL_law_679 : decode cL_law 679 = .ok (.aload_n 0, 1) := by decide +kernel
theorem dL_law_680 : decode cL_law 680 = .ok (.iload_n 3, 1) := by decide +kernel
theorem dL_law_681 : decode cL_law 681 = .ok (.iconst 1, 1) := by decide +kernel
theorem dL_law_682 : decode cL_law 682 = .ok (.iadd, 1) := by decide +kernel
theorem dL_law_683 : decode cL_law 683 = .ok (.iaload, 1) := by decide +kernel
theorem dL_law_684 : decode cL_law 684 = .ok (.invokevirtual 107, 3) := by decide +kernel
theorem dL_law_687 : decode cL_law 687 = .ok (.if_icmp .eq 5, 3) := by decide +kernel
theorem dL_law_690 : decode cL_law 690 = .ok (.iconst 0, 1) := by decide +kernel
theorem dL_law_691 : decode cL_law 691 = .ok (.ireturn, 1) := by decide +kernel
theorem dL_law_692 : decode cL_law 692 = .ok (.iinc 3 4, 3) := by decide +kernel
theorem dL_law_695 : decode cL_law 695 = .ok (.goto (-677), 3) := by decide +kernel
theorem dL_law_698 : decode cL_law 698 = .ok (.iconst 1, 1) := by decide +kernel
theorem dL_law_699 : decode cL_law 699 = .ok (.ireturn, 1) := by decide +kernel
end
section
/-! THE LIGHT JUDGEMENT: bwR: "from here, with these locals, this stack, these cells, the method goes to its end". All that a row of the kit asks of the context is one hypothesis (bwC). -/
def bw_all : List Cond := lw_tbl.filter goodWord
abbrev bwG : Type := va_G × ClassId × ClassId × ClassId
abbrev bw_tys (g : bwG) : List (ClassId × FieldType) := [(g.2.1, .int), (g.2.2.1, .char), (g.2.2.2, .object RX0)]
def bw_isNest : Cond → Bool
  | .methodLinkNest _ _ _ _ => true
  | _ => false
def bw_nest : List Cond := tables_1.filter bw_isNest
theorem bw_mem {w : Cond} (k : Nat) (h : lw_tbl[k]? = some w) (hg : goodWord w = true) : w ∈ bw_all := List.mem_filter.mpr ⟨List.mem_of_getElem? h, hg⟩
theorem bw_memN {w : Cond} (k : Nat) (h : tables_1[k]? = some w) (hg : bw_isNest w = true) : w ∈ bw_nest := List.mem_filter.mpr ⟨List.mem_of_getElem? h, hg⟩
theorem bw_good : GoodIn bw_all bw_all := fun w h => ⟨h, good_of_word (List.mem_filter.mp h).2⟩
def bwN (U : State) : Prop := (∀ w ∈ bw_nest, va_Nw w U) ∧ va_AO RX0 U
def bwC (g : bwG) (cc : ByteArray) (nL : Nat) (own nm : String) (ret : Option FieldType) (p : Program) (s : State) (m : MethodId) (args : Array Value) (meth : Method) (c : Code) : Prop :=
  p.tables.exec = Jvm.exec ∧ c.code = cc ∧ c.maxLocals = nL ∧ s.vm.findClass own = some m.cls ∧ (∀ w ∈ bw_all, w.before args s = true) ∧ meth.sig.returnType = ret ∧ meth.locks = false ∧ meth.name = nm ∧ va_K g.1 vwCl (bw_tys g) s ∧ bwN s
def bwR (l : Launch) (g : bwG) (cc : ByteArray) (nL : Nat) (own nm : String) (ret : Option FieldType) (rm : Room) (PX : State → Array Value → (Nat → Prop) → Prop) (Zf : State → Array Value → List Frame → (Nat → Prop) → State → Prop)
    (pc : Nat) (lv : List (Nat × Value)) (st : List Value) (ws : va_W) (k n : Nat) : Prop :=
  ∀ (p : Program) (e : Env) (s : State) (m : MethodId) (args : Array Value) (below : List Frame) (meth : Method) (c : Code) (A : Nat → Prop) (H : Heap) (locs : List Loc) (ls : Array Slot),
    bwC g cc nL own nm ret p s m args meth c → PX s args A → (∀ q : Nat, s.heap.size ≤ q → A q) → va_P g.1 vwCl ws H → va_D A ws → va_S A s.heap H locs → lv_has ls nL lv →
    W p l e rm s m args below meth c H locs k n (Zf s args below A) (F0 m pc ls st)
def bwQ (g : bwG) (Q : Option Value → va_W → Prop) (A : Nat → Prop) : Array Value → State → Outcome → State → Prop := fun _ st o t => (∃ (r : Option Value) (w : va_W), o = .returned r ∧ Q r w ∧ va_P g.1 vwCl w t.heap ∧ va_D A w) ∧ va_F A st t
def bwZ (g : bwG) (Q : Option Value → va_W → Prop) (mc ms : Nat) : State → Array Value → List Frame → (Nat → Prop) → State → Prop := fun s args below A => MQ below (bwQ g Q A) args s mc ms A
def bwT : State → Array Value → (Nat → Prop) → Prop := fun _ _ _ => True
def bwB (g : bwG) (ws : va_W) (sz : Nat) : State → Prop := fun U => U.heap.size = sz ∧ va_P g.1 vwCl ws U.heap ∧ va_K g.1 vwCl (bw_tys g) U ∧ bwN U ∧ va_D (fun _ => True) ws
/-- a method's contract: the cells ws and the arguments as at its start, Q of its answer and its cells at its end -/
def bwS (l : Launch) (g : bwG) (y : MethodName) (cc : ByteArray) (nL : Nat) (ret : Option FieldType) (rm : Room) (as : List Value) (ws : va_W) (Q : Option Value → va_W → Prop) : Prop :=
  ∀ sz : Nat, Met l y (.code y cc nL ret :: bw_all) rm (va_Pc as (bwB g ws sz)) (bwQ g Q (va_A ws sz)) rm.cells rm.slots (va_A ws sz)
theorem bw_nestW {s U : State} (hW : s.WarmedH U.vm) (h : bwN s) : bwN U := by
  refine ⟨?_, va_AO.moved hW.alike h.2⟩
  intro w hw
  have h1 := h.1 w hw
  have h2 := (List.mem_filter.mp hw).2
  cases w <;> first | exact va_Nw.warmM hW h1 | cases h2
theorem bw_nestC {U : State} {gf : JFrame} {mk : MethodId} {a : Array Value} (h : bwN U) : bwN (U.calling gf mk a) := by
  refine ⟨?_, va_AO.moved (u := U) (U := U.calling gf mk a) (Vm.Alike.refl U.vm) h.2⟩
  intro w hw
  have h1 := h.1 w hw
  have h2 := (List.mem_filter.mp hw).2
  cases w <;> first | exact va_Nw.same rfl rfl h1 | cases h2
theorem bw_blind {g : bwG} {ws : va_W} {sz : Nat} {as : List Value} : FrameBlind (va_Pc as (bwB g ws sz)) := by
  intro a U gf mk q
  obtain ⟨q0, q1, qP, qK, qN, qD⟩ := q
  exact ⟨q0, q1, qP, va_K.moved (u := U) (U := U.calling gf mk a) (Vm.Alike.refl U.vm) qK, bw_nestC qN, qD⟩

section BWR
variable {l : Launch} {g : bwG} {cc : ByteArray} {nL : Nat} {own nm : String} {ret : Option FieldType} {rm : Room} {PX : State → Array Value → (Nat → Prop) → Prop} {Zf : State → Array Value → List Frame → (Nat → Prop) → State → Prop} {pc : Nat} {lv : List (Nat × Value)} {st : List Value} {ws : va_W} {kc ks : Nat}
theorem bw_iconst {n : Int} (v : Int32) (hd : decode cc pc = .ok (.iconst n, 1)) (hv : Int32.ofInt n = v) (k : bwR l g cc nL own nm ret rm PX Zf (pc + 1) lv (.int v :: st) ws kc ks) : bwR l g cc nL own nm ret rm PX Zf pc lv (st) ws kc ks := by
  intro p e s m args below meth c A H locs ls C hX hA hP hD hS hl
  exact lv_iconst C.1 C.2.1 hd hv (k p e s m args below meth c A H locs ls C hX hA hP hD hS hl)
theorem bw_bipush {n : Int} (v : Int32) (hd : decode cc pc = .ok (.bipush n, 2)) (hv : (Int8.ofInt n).toInt32 = v) (k : bwR l g cc nL own nm ret rm PX Zf (pc + 2) lv (.int v :: st) ws kc ks) : bwR l g cc nL own nm ret rm PX Zf pc lv (st) ws kc ks := by
  intro p e s m args below meth c A H locs ls C hX hA hP hD hS hl
  exact lv_bipush C.1 C.2.1 hd hv (k p e s m args below meth c A H locs ls C hX hA hP hD hS hl)
theorem bw_sipush {n : Int} (v : Int32) (hd : decode cc pc = .ok (.sipush n, 3)) (hv : (Int16.ofInt n).toInt32 = v) (k : bwR l g cc nL own nm ret rm PX Zf (pc + 3) lv (.int v :: st) ws kc ks) : bwR l g cc nL own nm ret rm PX Zf pc lv (st) ws kc ks := by
  intro p e s m args below meth c A H locs ls C hX hA hP hD hS hl
  exact lv_sipush C.1 C.2.1 hd hv (k p e s m args below meth c A H locs ls C hX hA hP hD hS hl)
theorem bw_lconst {n : Fin 2} (v : Int64) (hd : decode cc pc = .ok (.lconst n, 1)) (hv : Int64.ofNat (n : Nat) = v) (k : bwR l g cc nL own nm ret rm PX Zf (pc + 1) lv (.long v :: st) ws kc ks) : bwR l g cc nL own nm ret rm PX Zf pc lv (st) ws kc ks := by
  intro p e s m args below meth c A H locs ls C hX hA hP hD hS hl
  exact lv_lconst C.1 C.2.1 hd hv (k p e s m args below meth c A H locs ls C hX hA hP hD hS hl)
theorem bw_ldc {index : Nat} {v : Int32} (hc : Cond.constant own index v ∈ bw_all) (hd : decode cc pc = .ok (.ldc index, 2)) (k : bwR l g cc nL own nm ret rm PX Zf (pc + 2) lv (.int v :: st) ws kc ks) : bwR l g cc nL own nm ret rm PX Zf pc lv (st) ws kc ks := by
  intro p e s m args below meth c A H locs ls C hX hA hP hD hS hl
  exact lv_ldc C.1 C.2.1 C.2.2.2.1 (C.2.2.2.2.1 _ hc) hd (k p e s m args below meth c A H locs ls C hX hA hP hD hS hl)
theorem bw_ldc2 {index : Nat} {v : Int64} (hc : Cond.constantLong own index v ∈ bw_all) (hd : decode cc pc = .ok (.ldc2_w index, 3)) (k : bwR l g cc nL own nm ret rm PX Zf (pc + 3) lv (.long v :: st) ws kc ks) : bwR l g cc nL own nm ret rm PX Zf pc lv (st) ws kc ks := by
  intro p e s m args below meth c A H locs ls C hX hA hP hD hS hl
  exact lv_ldc2 C.1 C.2.1 C.2.2.2.1 (C.2.2.2.2.1 _ hc) hd (k p e s m args below meth c A H locs ls C hX hA hP hD hS hl)
theorem bw_iload_n (j : Nat) {kk : Fin 4} {i : Nat} {x : Int32} (hd : decode cc pc = .ok (.iload_n kk, 1)) (hi : (kk : Nat) = i) (hj : lv[j]? = some (i, .int x)) (k : bwR l g cc nL own nm ret rm PX Zf (pc + 1) lv (.int x :: st) ws kc ks) : bwR l g cc nL own nm ret rm PX Zf pc lv (st) ws kc ks := by
  intro p e s m args below meth c A H locs ls C hX hA hP hD hS hl
  exact lv_iload_n C.1 C.2.1 hd hi (lv_at hl j hj) (k p e s m args below meth c A H locs ls C hX hA hP hD hS hl)
theorem bw_iload (j : Nat) {i : Nat} {x : Int32} (hd : decode cc pc = .ok (.iload i, 2)) (hj : lv[j]? = some (i, .int x)) (k : bwR l g cc nL own nm ret rm PX Zf (pc + 2) lv (.int x :: st) ws kc ks) : bwR l g cc nL own nm ret rm PX Zf pc lv (st) ws kc ks := by
  intro p e s m args below meth c A H locs ls C hX hA hP hD hS hl
  exact lv_iload C.1 C.2.1 hd (lv_at hl j hj) (k p e s m args below meth c A H locs ls C hX hA hP hD hS hl)
theorem bw_lload_n (j : Nat) {kk : Fin 4} {i : Nat} {x : Int64} (hd : decode cc pc = .ok (.lload_n kk, 1)) (hi : (kk : Nat) = i) (hj : lv[j]? = some (i, .long x)) (k : bwR l g cc nL own nm ret rm PX Zf (pc + 1) lv (.long x :: st) ws kc ks) : bwR l g cc nL own nm ret rm PX Zf pc lv (st) ws kc ks := by
  intro p e s m args below meth c A H locs ls C hX hA hP hD hS hl
  exact lv_lload_n C.1 C.2.1 hd hi (lv_at hl j hj) (k p e s m args below meth c A H locs ls C hX hA hP hD hS hl)
theorem bw_lload (j : Nat) {i : Nat} {x : Int64} (hd : decode cc pc = .ok (.lload i, 2)) (hj : lv[j]? = some (i, .long x)) (k : bwR l g cc nL own nm ret rm PX Zf (pc + 2) lv (.long x :: st) ws kc ks) : bwR l g cc nL own nm ret rm PX Zf pc lv (st) ws kc ks := by
  intro p e s m args below meth c A H locs ls C hX hA hP hD hS hl
  exact lv_lload C.1 C.2.1 hd (lv_at hl j hj) (k p e s m args below meth c A H locs ls C hX hA hP hD hS hl)
theorem bw_aload_n (j : Nat) {kk : Fin 4} {i : Nat} {x : Nat} (hd : decode cc pc = .ok (.aload_n kk, 1)) (hi : (kk : Nat) = i) (hj : lv[j]? = some (i, .ref x)) (k : bwR l g cc nL own nm ret rm PX Zf (pc + 1) lv (.ref x :: st) ws kc ks) : bwR l g cc nL own nm ret rm PX Zf pc lv (st) ws kc ks := by
  intro p e s m args below meth c A H locs ls C hX hA hP hD hS hl
  exact lv_aload_n C.1 C.2.1 hd hi (lv_at hl j hj) (k p e s m args below meth c A H locs ls C hX hA hP hD hS hl)
theorem bw_aload (j : Nat) {i : Nat} {x : Nat} (hd : decode cc pc = .ok (.aload i, 2)) (hj : lv[j]? = some (i, .ref x)) (k : bwR l g cc nL own nm ret rm PX Zf (pc + 2) lv (.ref x :: st) ws kc ks) : bwR l g cc nL own nm ret rm PX Zf pc lv (st) ws kc ks := by
  intro p e s m args below meth c A H locs ls C hX hA hP hD hS hl
  exact lv_aload C.1 C.2.1 hd (lv_at hl j hj) (k p e s m args below meth c A H locs ls C hX hA hP hD hS hl)
theorem bw_aload_nN (j : Nat) {kk : Fin 4} {i : Nat} (hd : decode cc pc = .ok (.aload_n kk, 1)) (hi : (kk : Nat) = i) (hj : lv[j]? = some (i, .null)) (k : bwR l g cc nL own nm ret rm PX Zf (pc + 1) lv (.null :: st) ws kc ks) : bwR l g cc nL own nm ret rm PX Zf pc lv (st) ws kc ks := by
  intro p e s m args below meth c A H locs ls C hX hA hP hD hS hl
  exact lv_aload_nN C.1 C.2.1 hd hi (lv_at hl j hj) (k p e s m args below meth c A H locs ls C hX hA hP hD hS hl)
theorem bw_istore_n {kk : Fin 4} {i : Nat} {x : Int32} (lv1 : List (Nat × Value)) (hd : decode cc pc = .ok (.istore_n kk, 1)) (hi : (kk : Nat) = i) (hn : i < nL) (hf : (i, Value.int x) :: lv.filter (fun q => !(q.1 == i) && !(q.1 + 1 == i && q.2.category == 2)) = lv1) (k : bwR l g cc nL own nm ret rm PX Zf (pc + 1) lv1 st ws kc ks) : bwR l g cc nL own nm ret rm PX Zf pc lv (.int x :: st) ws kc ks := by
  intro p e s m args below meth c A H locs ls C hX hA hP hD hS hl
  exact lv_istore_n C.1 C.2.1 hd hi hl hn hf (fun ls1 hl1 => k p e s m args below meth c A H locs ls1 C hX hA hP hD hS hl1)
theorem bw_istore {i : Nat} {x : Int32} (lv1 : List (Nat × Value)) (hd : decode cc pc = .ok (.istore i, 2)) (hn : i < nL) (hf : (i, Value.int x) :: lv.filter (fun q => !(q.1 == i) && !(q.1 + 1 == i && q.2.category == 2)) = lv1) (k : bwR l g cc nL own nm ret rm PX Zf (pc + 2) lv1 st ws kc ks) : bwR l g cc nL own nm ret rm PX Zf pc lv (.int x :: st) ws kc ks := by
  intro p e s m args below meth c A H locs ls C hX hA hP hD hS hl
  exact lv_istore C.1 C.2.1 hd hl hn hf (fun ls1 hl1 => k p e s m args below meth c A H locs ls1 C hX hA hP hD hS hl1)
theorem bw_lstore_n {kk : Fin 4} {i : Nat} {x : Int64} (lv1 : List (Nat × Value)) (hd : decode cc pc = .ok (.lstore_n kk, 1)) (hi : (kk : Nat) = i) (hn : i + 1 < nL) (hf : (i, Value.long x) :: lv.filter (fun q => !(q.1 == i) && (!(q.1 == i + 1) && !(q.1 + 1 == i && q.2.category == 2))) = lv1) (k : bwR l g cc nL own nm ret rm PX Zf (pc + 1) lv1 st ws kc ks) : bwR l g cc nL own nm ret rm PX Zf pc lv (.long x :: st) ws kc ks := by
  intro p e s m args below meth c A H locs ls C hX hA hP hD hS hl
  exact lv_lstore_n C.1 C.2.1 hd hi hl hn hf (fun ls1 hl1 => k p e s m args below meth c A H locs ls1 C hX hA hP hD hS hl1)
theorem bw_lstore {i : Nat} {x : Int64} (lv1 : List (Nat × Value)) (hd : decode cc pc = .ok (.lstore i, 2)) (hn : i + 1 < nL) (hf : (i, Value.long x) :: lv.filter (fun q => !(q.1 == i) && (!(q.1 == i + 1) && !(q.1 + 1 == i && q.2.category == 2))) = lv1) (k : bwR l g cc nL own nm ret rm PX Zf (pc + 2) lv1 st ws kc ks) : bwR l g cc nL own nm ret rm PX Zf pc lv (.long x :: st) ws kc ks := by
  intro p e s m args below meth c A H locs ls C hX hA hP hD hS hl
  exact lv_lstore C.1 C.2.1 hd hl hn hf (fun ls1 hl1 => k p e s m args below meth c A H locs ls1 C hX hA hP hD hS hl1)
theorem bw_astore_n {kk : Fin 4} {i : Nat} {x : Nat} (lv1 : List (Nat × Value)) (hd : decode cc pc = .ok (.astore_n kk, 1)) (hi : (kk : Nat) = i) (hn : i < nL) (hf : (i, Value.ref x) :: lv.filter (fun q => !(q.1 == i) && !(q.1 + 1 == i && q.2.category == 2)) = lv1) (k : bwR l g cc nL own nm ret rm PX Zf (pc + 1) lv1 st ws kc ks) : bwR l g cc nL own nm ret rm PX Zf pc lv (.ref x :: st) ws kc ks := by
  intro p e s m args below meth c A H locs ls C hX hA hP hD hS hl
  exact lv_astore_n C.1 C.2.1 hd hi hl hn hf (fun ls1 hl1 => k p e s m args below meth c A H locs ls1 C hX hA hP hD hS hl1)
theorem bw_astore {i : Nat} {x : Nat} (lv1 : List (Nat × Value)) (hd : decode cc pc = .ok (.astore i, 2)) (hn : i < nL) (hf : (i, Value.ref x) :: lv.filter (fun q => !(q.1 == i) && !(q.1 + 1 == i && q.2.category == 2)) = lv1) (k : bwR l g cc nL own nm ret rm PX Zf (pc + 2) lv1 st ws kc ks) : bwR l g cc nL own nm ret rm PX Zf pc lv (.ref x :: st) ws kc ks := by
  intro p e s m args below meth c A H locs ls C hX hA hP hD hS hl
  exact lv_astore C.1 C.2.1 hd hl hn hf (fun ls1 hl1 => k p e s m args below meth c A H locs ls1 C hX hA hP hD hS hl1)
theorem bw_astore_nN {kk : Fin 4} {i : Nat} (lv1 : List (Nat × Value)) (hd : decode cc pc = .ok (.astore_n kk, 1)) (hi : (kk : Nat) = i) (hn : i < nL) (hf : (i, Value.null) :: lv.filter (fun q => !(q.1 == i) && !(q.1 + 1 == i && q.2.category == 2)) = lv1) (k : bwR l g cc nL own nm ret rm PX Zf (pc + 1) lv1 st ws kc ks) : bwR l g cc nL own nm ret rm PX Zf pc lv (.null :: st) ws kc ks := by
  intro p e s m args below meth c A H locs ls C hX hA hP hD hS hl
  exact lv_astore_nN C.1 C.2.1 hd hi hl hn hf (fun ls1 hl1 => k p e s m args below meth c A H locs ls1 C hX hA hP hD hS hl1)
theorem bw_iinc (j : Nat) {i : Nat} {n : Int} {x : Int32} (v : Int32) (lv1 : List (Nat × Value)) (hd : decode cc pc = .ok (.iinc i n, 3)) (hj : lv[j]? = some (i, .int x)) (hv : x + Int32.ofInt n = v) (hn : i < nL) (hf : (i, Value.int v) :: lv.filter (fun q => !(q.1 == i) && !(q.1 + 1 == i && q.2.category == 2)) = lv1) (k : bwR l g cc nL own nm ret rm PX Zf (pc + 3) lv1 st ws kc ks) : bwR l g cc nL own nm ret rm PX Zf pc lv st ws kc ks := by
  intro p e s m args below meth c A H locs ls C hX hA hP hD hS hl
  exact lv_iinc C.1 C.2.1 hd hl hj hv hn hf (fun ls1 hl1 => k p e s m args below meth c A H locs ls1 C hX hA hP hD hS hl1)
theorem bw_iadd {x y : Int32} (hd : decode cc pc = .ok (.iadd, 1)) (k : bwR l g cc nL own nm ret rm PX Zf (pc + 1) lv (.int (x + y) :: st) ws kc ks) : bwR l g cc nL own nm ret rm PX Zf pc lv (.int y :: .int x :: st) ws kc ks := by
  intro p e s m args below meth c A H locs ls C hX hA hP hD hS hl
  exact lv_iadd C.1 C.2.1 hd (k p e s m args below meth c A H locs ls C hX hA hP hD hS hl)
theorem bw_isub {x y : Int32} (hd : decode cc pc = .ok (.isub, 1)) (k : bwR l g cc nL own nm ret rm PX Zf (pc + 1) lv (.int (x - y) :: st) ws kc ks) : bwR l g cc nL own nm ret rm PX Zf pc lv (.int y :: .int x :: st) ws kc ks := by
  intro p e s m args below meth c A H locs ls C hX hA hP hD hS hl
  exact lv_isub C.1 C.2.1 hd (k p e s m args below meth c A H locs ls C hX hA hP hD hS hl)
theorem bw_imul {x y : Int32} (hd : decode cc pc = .ok (.imul, 1)) (k : bwR l g cc nL own nm ret rm PX Zf (pc + 1) lv (.int (x * y) :: st) ws kc ks) : bwR l g cc nL own nm ret rm PX Zf pc lv (.int y :: .int x :: st) ws kc ks := by
  intro p e s m args below meth c A H locs ls C hX hA hP hD hS hl
  exact lv_imul C.1 C.2.1 hd (k p e s m args below meth c A H locs ls C hX hA hP hD hS hl)
theorem bw_iand {x y : Int32} (hd : decode cc pc = .ok (.iand, 1)) (k : bwR l g cc nL own nm ret rm PX Zf (pc + 1) lv (.int (x &&& y) :: st) ws kc ks) : bwR l g cc nL own nm ret rm PX Zf pc lv (.int y :: .int x :: st) ws kc ks := by
  intro p e s m args below meth c A H locs ls C hX hA hP hD hS hl
  exact lv_iand C.1 C.2.1 hd (k p e s m args below meth c A H locs ls C hX hA hP hD hS hl)
theorem bw_ior {x y : Int32} (hd : decode cc pc = .ok (.ior, 1)) (k : bwR l g cc nL own nm ret rm PX Zf (pc + 1) lv (.int (x ||| y) :: st) ws kc ks) : bwR l g cc nL own nm ret rm PX Zf pc lv (.int y :: .int x :: st) ws kc ks := by
  intro p e s m args below meth c A H locs ls C hX hA hP hD hS hl
  exact lv_ior C.1 C.2.1 hd (k p e s m args below meth c A H locs ls C hX hA hP hD hS hl)
theorem bw_ixor {x y : Int32} (hd : decode cc pc = .ok (.ixor, 1)) (k : bwR l g cc nL own nm ret rm PX Zf (pc + 1) lv (.int (x ^^^ y) :: st) ws kc ks) : bwR l g cc nL own nm ret rm PX Zf pc lv (.int y :: .int x :: st) ws kc ks := by
  intro p e s m args below meth c A H locs ls C hX hA hP hD hS hl
  exact lv_ixor C.1 C.2.1 hd (k p e s m args below meth c A H locs ls C hX hA hP hD hS hl)
theorem bw_idiv {x y : Int32} (hd : decode cc pc = .ok (.idiv, 1)) (hne : ¬ y = 0) (k : bwR l g cc nL own nm ret rm PX Zf (pc + 1) lv (.int (x / y) :: st) ws kc ks) : bwR l g cc nL own nm ret rm PX Zf pc lv (.int y :: .int x :: st) ws kc ks := by
  intro p e s m args below meth c A H locs ls C hX hA hP hD hS hl
  exact lv_idiv C.1 C.2.1 hd hne (k p e s m args below meth c A H locs ls C hX hA hP hD hS hl)
theorem bw_irem {x y : Int32} (hd : decode cc pc = .ok (.irem, 1)) (hne : ¬ y = 0) (k : bwR l g cc nL own nm ret rm PX Zf (pc + 1) lv (.int (x - x / y * y) :: st) ws kc ks) : bwR l g cc nL own nm ret rm PX Zf pc lv (.int y :: .int x :: st) ws kc ks := by
  intro p e s m args below meth c A H locs ls C hX hA hP hD hS hl
  exact lv_irem C.1 C.2.1 hd hne (k p e s m args below meth c A H locs ls C hX hA hP hD hS hl)
theorem bw_ineg {x : Int32} (hd : decode cc pc = .ok (.ineg, 1)) (k : bwR l g cc nL own nm ret rm PX Zf (pc + 1) lv (.int (-x) :: st) ws kc ks) : bwR l g cc nL own nm ret rm PX Zf pc lv (.int x :: st) ws kc ks := by
  intro p e s m args below meth c A H locs ls C hX hA hP hD hS hl
  exact lv_ineg C.1 C.2.1 hd (k p e s m args below meth c A H locs ls C hX hA hP hD hS hl)
theorem bw_ladd {x y : Int64} (hd : decode cc pc = .ok (.ladd, 1)) (k : bwR l g cc nL own nm ret rm PX Zf (pc + 1) lv (.long (x + y) :: st) ws kc ks) : bwR l g cc nL own nm ret rm PX Zf pc lv (.long y :: .long x :: st) ws kc ks := by
  intro p e s m args below meth c A H locs ls C hX hA hP hD hS hl
  exact lv_ladd C.1 C.2.1 hd (k p e s m args below meth c A H locs ls C hX hA hP hD hS hl)
theorem bw_lsub {x y : Int64} (hd : decode cc pc = .ok (.lsub, 1)) (k : bwR l g cc nL own nm ret rm PX Zf (pc + 1) lv (.long (x - y) :: st) ws kc ks) : bwR l g cc nL own nm ret rm PX Zf pc lv (.long y :: .long x :: st) ws kc ks := by
  intro p e s m args below meth c A H locs ls C hX hA hP hD hS hl
  exact lv_lsub C.1 C.2.1 hd (k p e s m args below meth c A H locs ls C hX hA hP hD hS hl)
theorem bw_lmul {x y : Int64} (hd : decode cc pc = .ok (.lmul, 1)) (k : bwR l g cc nL own nm ret rm PX Zf (pc + 1) lv (.long (x * y) :: st) ws kc ks) : bwR l g cc nL own nm ret rm PX Zf pc lv (.long y :: .long x :: st) ws kc ks := by
  intro p e s m args below meth c A H locs ls C hX hA hP hD hS hl
  exact lv_lmul C.1 C.2.1 hd (k p e s m args below meth c A H locs ls C hX hA hP hD hS hl)
theorem bw_land {x y : Int64} (hd : decode cc pc = .ok (.land, 1)) (k : bwR l g cc nL own nm ret rm PX Zf (pc + 1) lv (.long (x &&& y) :: st) ws kc ks) : bwR l g cc nL own nm ret rm PX Zf pc lv (.long y :: .long x :: st) ws kc ks := by
  intro p e s m args below meth c A H locs ls C hX hA hP hD hS hl
  exact lv_land C.1 C.2.1 hd (k p e s m args below meth c A H locs ls C hX hA hP hD hS hl)
theorem bw_lor {x y : Int64} (hd : decode cc pc = .ok (.lor, 1)) (k : bwR l g cc nL own nm ret rm PX Zf (pc + 1) lv (.long (x ||| y) :: st) ws kc ks) : bwR l g cc nL own nm ret rm PX Zf pc lv (.long y :: .long x :: st) ws kc ks := by
  intro p e s m args below meth c A H locs ls C hX hA hP hD hS hl
  exact lv_lor C.1 C.2.1 hd (k p e s m args below meth c A H locs ls C hX hA hP hD hS hl)
theorem bw_i2l {x : Int32} (hd : decode cc pc = .ok (.i2l, 1)) (k : bwR l g cc nL own nm ret rm PX Zf (pc + 1) lv (.long x.toInt64 :: st) ws kc ks) : bwR l g cc nL own nm ret rm PX Zf pc lv (.int x :: st) ws kc ks := by
  intro p e s m args below meth c A H locs ls C hX hA hP hD hS hl
  exact lv_i2l C.1 C.2.1 hd rfl (k p e s m args below meth c A H locs ls C hX hA hP hD hS hl)
theorem bw_l2i {x : Int64} (hd : decode cc pc = .ok (.l2i, 1)) (k : bwR l g cc nL own nm ret rm PX Zf (pc + 1) lv (.int x.toInt32 :: st) ws kc ks) : bwR l g cc nL own nm ret rm PX Zf pc lv (.long x :: st) ws kc ks := by
  intro p e s m args below meth c A H locs ls C hX hA hP hD hS hl
  exact lv_l2i C.1 C.2.1 hd rfl (k p e s m args below meth c A H locs ls C hX hA hP hD hS hl)
theorem bw_i2c {x : Int32} (hd : decode cc pc = .ok (.i2c, 1)) (k : bwR l g cc nL own nm ret rm PX Zf (pc + 1) lv (.int (x.toUInt32 % 65536).toInt32 :: st) ws kc ks) : bwR l g cc nL own nm ret rm PX Zf pc lv (.int x :: st) ws kc ks := by
  intro p e s m args below meth c A H locs ls C hX hA hP hD hS hl
  exact lv_i2c C.1 C.2.1 hd rfl (k p e s m args below meth c A H locs ls C hX hA hP hD hS hl)
theorem bw_lushr {x : Int64} {y : Int32} (hd : decode cc pc = .ok (.lushr, 1)) (k : bwR l g cc nL own nm ret rm PX Zf (pc + 1) lv (.long (x.toUInt64 >>> (y.toInt64.toUInt64 &&& Int64.toUInt64 63)).toInt64 :: st) ws kc ks) : bwR l g cc nL own nm ret rm PX Zf pc lv (.int y :: .long x :: st) ws kc ks := by
  intro p e s m args below meth c A H locs ls C hX hA hP hD hS hl
  exact lv_lushr C.1 C.2.1 hd rfl (k p e s m args below meth c A H locs ls C hX hA hP hD hS hl)
theorem bw_lshl {x : Int64} {y : Int32} (hd : decode cc pc = .ok (.lshl, 1)) (k : bwR l g cc nL own nm ret rm PX Zf (pc + 1) lv (.long (x <<< (y.toInt64 &&& 63)) :: st) ws kc ks) : bwR l g cc nL own nm ret rm PX Zf pc lv (.int y :: .long x :: st) ws kc ks := by
  intro p e s m args below meth c A H locs ls C hX hA hP hD hS hl
  exact lv_lshl C.1 C.2.1 hd rfl (k p e s m args below meth c A H locs ls C hX hA hP hD hS hl)
theorem bw_lcmp {x y : Int64} (hd : decode cc pc = .ok (.lcmp, 1)) (k : bwR l g cc nL own nm ret rm PX Zf (pc + 1) lv (.int (lg_cmp x y) :: st) ws kc ks) : bwR l g cc nL own nm ret rm PX Zf pc lv (.long y :: .long x :: st) ws kc ks := by
  intro p e s m args below meth c A H locs ls C hX hA hP hD hS hl
  exact W.lcmp C.1 C.2.1 hd (k p e s m args below meth c A H locs ls C hX hA hP hD hS hl)
theorem bw_dup {va : Value} (hd : decode cc pc = .ok (.dup, 1)) (hva : va.category = 1) (k : bwR l g cc nL own nm ret rm PX Zf (pc + 1) lv (va :: va :: st) ws kc ks) : bwR l g cc nL own nm ret rm PX Zf pc lv (va :: st) ws kc ks := by
  intro p e s m args below meth c A H locs ls C hX hA hP hD hS hl
  exact lv_dup C.1 C.2.1 hd hva (k p e s m args below meth c A H locs ls C hX hA hP hD hS hl)
theorem bw_pop {va : Value} (hd : decode cc pc = .ok (.pop, 1)) (hva : va.category = 1) (k : bwR l g cc nL own nm ret rm PX Zf (pc + 1) lv (st) ws kc ks) : bwR l g cc nL own nm ret rm PX Zf pc lv (va :: st) ws kc ks := by
  intro p e s m args below meth c A H locs ls C hX hA hP hD hS hl
  exact lv_pop C.1 C.2.1 hd hva (k p e s m args below meth c A H locs ls C hX hA hP hD hS hl)
theorem bw_dup2_11 {va vb : Value} (hd : decode cc pc = .ok (.dup2, 1)) (hva : va.category = 1) (hvb : vb.category = 1) (k : bwR l g cc nL own nm ret rm PX Zf (pc + 1) lv (va :: vb :: va :: vb :: st) ws kc ks) : bwR l g cc nL own nm ret rm PX Zf pc lv (va :: vb :: st) ws kc ks := by
  intro p e s m args below meth c A H locs ls C hX hA hP hD hS hl
  exact lv_dup2_11 C.1 C.2.1 hd hva hvb (k p e s m args below meth c A H locs ls C hX hA hP hD hS hl)
theorem bw_goto {off : Int} (tgt : Nat) (hd : decode cc pc = .ok (.goto off, 3)) (ht : (pc : Int) + off = (tgt : Int)) (k : bwR l g cc nL own nm ret rm PX Zf (tgt) lv (st) ws kc ks) : bwR l g cc nL own nm ret rm PX Zf pc lv (st) ws kc ks := by
  intro p e s m args below meth c A H locs ls C hX hA hP hD hS hl
  exact lv_goto C.1 C.2.1 hd ht (k p e s m args below meth c A H locs ls C hX hA hP hD hS hl)
theorem bw_ifnonnull {x : Nat} {off : Int} (tgt : Nat) (hd : decode cc pc = .ok (.ifnonnull off, 3)) (ht : (pc : Int) + off = (tgt : Int)) (k : bwR l g cc nL own nm ret rm PX Zf (tgt) lv (st) ws kc ks) : bwR l g cc nL own nm ret rm PX Zf pc lv (.ref x :: st) ws kc ks := by
  intro p e s m args below meth c A H locs ls C hX hA hP hD hS hl
  exact lv_ifnonnull C.1 C.2.1 hd ht (k p e s m args below meth c A H locs ls C hX hA hP hD hS hl)
theorem bw_ifnonnullN {off : Int} (hd : decode cc pc = .ok (.ifnonnull off, 3)) (k : bwR l g cc nL own nm ret rm PX Zf (pc + 3) lv (st) ws kc ks) : bwR l g cc nL own nm ret rm PX Zf pc lv (.null :: st) ws kc ks := by
  intro p e s m args below meth c A H locs ls C hX hA hP hD hS hl
  exact lv_ifnonnullN C.1 C.2.1 hd (k p e s m args below meth c A H locs ls C hX hA hP hD hS hl)
-- branches: the condition as the kit's rows have it
theorem bw_if_eq {x : Int32} {off : Int} (tgt : Nat) (hd : decode cc pc = .ok (.ifCond .eq off, 3)) (ht : (pc : Int) + off = (tgt : Int)) (kt : x = 0 → bwR l g cc nL own nm ret rm PX Zf tgt lv st ws kc ks) (kf : ¬ x = 0 → bwR l g cc nL own nm ret rm PX Zf (pc + 3) lv st ws kc ks) : bwR l g cc nL own nm ret rm PX Zf pc lv (.int x :: st) ws kc ks := by
  intro p e s m args below meth c A H locs ls C hX hA hP hD hS hl
  exact lv_if_eq C.1 C.2.1 hd ht (fun h => kt h p e s m args below meth c A H locs ls C hX hA hP hD hS hl) (fun h => kf h p e s m args below meth c A H locs ls C hX hA hP hD hS hl)
theorem bw_if_ne {x : Int32} {off : Int} (tgt : Nat) (hd : decode cc pc = .ok (.ifCond .ne off, 3)) (ht : (pc : Int) + off = (tgt : Int)) (kt : ¬ x = 0 → bwR l g cc nL own nm ret rm PX Zf tgt lv st ws kc ks) (kf : x = 0 → bwR l g cc nL own nm ret rm PX Zf (pc + 3) lv st ws kc ks) : bwR l g cc nL own nm ret rm PX Zf pc lv (.int x :: st) ws kc ks := by
  intro p e s m args below meth c A H locs ls C hX hA hP hD hS hl
  exact lv_if_ne C.1 C.2.1 hd ht (fun h => kt h p e s m args below meth c A H locs ls C hX hA hP hD hS hl) (fun h => kf h p e s m args below meth c A H locs ls C hX hA hP hD hS hl)
theorem bw_if_lt {x : Int32} {off : Int} (tgt : Nat) (hd : decode cc pc = .ok (.ifCond .lt off, 3)) (ht : (pc : Int) + off = (tgt : Int)) (kt : x < 0 → bwR l g cc nL own nm ret rm PX Zf tgt lv st ws kc ks) (kf : ¬ x < 0 → bwR l g cc nL own nm ret rm PX Zf (pc + 3) lv st ws kc ks) : bwR l g cc nL own nm ret rm PX Zf pc lv (.int x :: st) ws kc ks := by
  intro p e s m args below meth c A H locs ls C hX hA hP hD hS hl
  exact lv_if_lt C.1 C.2.1 hd ht (fun h => kt h p e s m args below meth c A H locs ls C hX hA hP hD hS hl) (fun h => kf h p e s m args below meth c A H locs ls C hX hA hP hD hS hl)
theorem bw_if_ge {x : Int32} {off : Int} (tgt : Nat) (hd : decode cc pc = .ok (.ifCond .ge off, 3)) (ht : (pc : Int) + off = (tgt : Int)) (kt : 0 ≤ x → bwR l g cc nL own nm ret rm PX Zf tgt lv st ws kc ks) (kf : ¬ 0 ≤ x → bwR l g cc nL own nm ret rm PX Zf (pc + 3) lv st ws kc ks) : bwR l g cc nL own nm ret rm PX Zf pc lv (.int x :: st) ws kc ks := by
  intro p e s m args below meth c A H locs ls C hX hA hP hD hS hl
  exact lv_if_ge C.1 C.2.1 hd ht (fun h => kt h p e s m args below meth c A H locs ls C hX hA hP hD hS hl) (fun h => kf h p e s m args below meth c A H locs ls C hX hA hP hD hS hl)
theorem bw_if_gt {x : Int32} {off : Int} (tgt : Nat) (hd : decode cc pc = .ok (.ifCond .gt off, 3)) (ht : (pc : Int) + off = (tgt : Int)) (kt : 0 < x → bwR l g cc nL own nm ret rm PX Zf tgt lv st ws kc ks) (kf : ¬ 0 < x → bwR l g cc nL own nm ret rm PX Zf (pc + 3) lv st ws kc ks) : bwR l g cc nL own nm ret rm PX Zf pc lv (.int x :: st) ws kc ks := by
  intro p e s m args below meth c A H locs ls C hX hA hP hD hS hl
  exact lv_if_gt C.1 C.2.1 hd ht (fun h => kt h p e s m args below meth c A H locs ls C hX hA hP hD hS hl) (fun h => kf h p e s m args below meth c A H locs ls C hX hA hP hD hS hl)
theorem bw_if_le {x : Int32} {off : Int} (tgt : Nat) (hd : decode cc pc = .ok (.ifCond .le off, 3)) (ht : (pc : Int) + off = (tgt : Int)) (kt : x ≤ 0 → bwR l g cc nL own nm ret rm PX Zf tgt lv st ws kc ks) (kf : ¬ x ≤ 0 → bwR l g cc nL own nm ret rm PX Zf (pc + 3) lv st ws kc ks) : bwR l g cc nL own nm ret rm PX Zf pc lv (.int x :: st) ws kc ks := by
  intro p e s m args below meth c A H locs ls C hX hA hP hD hS hl
  exact lv_if_le C.1 C.2.1 hd ht (fun h => kt h p e s m args below meth c A H locs ls C hX hA hP hD hS hl) (fun h => kf h p e s m args below meth c A H locs ls C hX hA hP hD hS hl)
theorem bw_icmp_eq {x y : Int32} {off : Int} (tgt : Nat) (hd : decode cc pc = .ok (.if_icmp .eq off, 3)) (ht : (pc : Int) + off = (tgt : Int)) (kt : x = y → bwR l g cc nL own nm ret rm PX Zf tgt lv st ws kc ks) (kf : ¬ x = y → bwR l g cc nL own nm ret rm PX Zf (pc + 3) lv st ws kc ks) : bwR l g cc nL own nm ret rm PX Zf pc lv (.int y :: .int x :: st) ws kc ks := by
  intro p e s m args below meth c A H locs ls C hX hA hP hD hS hl
  exact lv_icmp_eq C.1 C.2.1 hd ht (fun h => kt h p e s m args below meth c A H locs ls C hX hA hP hD hS hl) (fun h => kf h p e s m args below meth c A H locs ls C hX hA hP hD hS hl)
theorem bw_icmp_ne {x y : Int32} {off : Int} (tgt : Nat) (hd : decode cc pc = .ok (.if_icmp .ne off, 3)) (ht : (pc : Int) + off = (tgt : Int)) (kt : ¬ x = y → bwR l g cc nL own nm ret rm PX Zf tgt lv st ws kc ks) (kf : x = y → bwR l g cc nL own nm ret rm PX Zf (pc + 3) lv st ws kc ks) : bwR l g cc nL own nm ret rm PX Zf pc lv (.int y :: .int x :: st) ws kc ks := by
  intro p e s m args below meth c A H locs ls C hX hA hP hD hS hl
  exact lv_icmp_ne C.1 C.2.1 hd ht (fun h => kt h p e s m args below meth c A H locs ls C hX hA hP hD hS hl) (fun h => kf h p e s m args below meth c A H locs ls C hX hA hP hD hS hl)
theorem bw_icmp_lt {x y : Int32} {off : Int} (tgt : Nat) (hd : decode cc pc = .ok (.if_icmp .lt off, 3)) (ht : (pc : Int) + off = (tgt : Int)) (kt : x < y → bwR l g cc nL own nm ret rm PX Zf tgt lv st ws kc ks) (kf : ¬ x < y → bwR l g cc nL own nm ret rm PX Zf (pc + 3) lv st ws kc ks) : bwR l g cc nL own nm ret rm PX Zf pc lv (.int y :: .int x :: st) ws kc ks := by
  intro p e s m args below meth c A H locs ls C hX hA hP hD hS hl
  exact lv_icmp_lt C.1 C.2.1 hd ht (fun h => kt h p e s m args below meth c A H locs ls C hX hA hP hD hS hl) (fun h => kf h p e s m args below meth c A H locs ls C hX hA hP hD hS hl)
theorem bw_icmp_ge {x y : Int32} {off : Int} (tgt : Nat) (hd : decode cc pc = .ok (.if_icmp .ge off, 3)) (ht : (pc : Int) + off = (tgt : Int)) (kt : y ≤ x → bwR l g cc nL own nm ret rm PX Zf tgt lv st ws kc ks) (kf : ¬ y ≤ x → bwR l g cc nL own nm ret rm PX Zf (pc + 3) lv st ws kc ks) : bwR l g cc nL own nm ret rm PX Zf pc lv (.int y :: .int x :: st) ws kc ks := by
  intro p e s m args below meth c A H locs ls C hX hA hP hD hS hl
  exact lv_icmp_ge C.1 C.2.1 hd ht (fun h => kt h p e s m args below meth c A H locs ls C hX hA hP hD hS hl) (fun h => kf h p e s m args below meth c A H locs ls C hX hA hP hD hS hl)
theorem bw_icmp_gt {x y : Int32} {off : Int} (tgt : Nat) (hd : decode cc pc = .ok (.if_icmp .gt off, 3)) (ht : (pc : Int) + off = (tgt : Int)) (kt : y < x → bwR l g cc nL own nm ret rm PX Zf tgt lv st ws kc ks) (kf : ¬ y < x → bwR l g cc nL own nm ret rm PX Zf (pc + 3) lv st ws kc ks) : bwR l g cc nL own nm ret rm PX Zf pc lv (.int y :: .int x :: st) ws kc ks := by
  intro p e s m args below meth c A H locs ls C hX hA hP hD hS hl
  exact lv_icmp_gt C.1 C.2.1 hd ht (fun h => kt h p e s m args below meth c A H locs ls C hX hA hP hD hS hl) (fun h => kf h p e s m args below meth c A H locs ls C hX hA hP hD hS hl)
theorem bw_icmp_le {x y : Int32} {off : Int} (tgt : Nat) (hd : decode cc pc = .ok (.if_icmp .le off, 3)) (ht : (pc : Int) + off = (tgt : Int)) (kt : x ≤ y → bwR l g cc nL own nm ret rm PX Zf tgt lv st ws kc ks) (kf : ¬ x ≤ y → bwR l g cc nL own nm ret rm PX Zf (pc + 3) lv st ws kc ks) : bwR l g cc nL own nm ret rm PX Zf pc lv (.int y :: .int x :: st) ws kc ks := by
  intro p e s m args below meth c A H locs ls C hX hA hP hD hS hl
  exact lv_icmp_le C.1 C.2.1 hd ht (fun h => kt h p e s m args below meth c A H locs ls C hX hA hP hD hS hl) (fun h => kf h p e s m args below meth c A H locs ls C hX hA hP hD hS hl)
theorem bw_tableOut {dflt lo hi : Int} {offs : Array Int} {len : Nat} {x : Int32} (tgt : Nat) (hd : decode cc pc = .ok (.tableswitch dflt lo hi offs, len)) (h : x.toInt < lo ∨ hi < x.toInt) (ht : (pc : Int) + dflt = (tgt : Int)) (k : bwR l g cc nL own nm ret rm PX Zf tgt lv st ws kc ks) : bwR l g cc nL own nm ret rm PX Zf pc lv (.int x :: st) ws kc ks := by
  intro p e s m args below meth c A H locs ls C hX hA hP hD hS hl
  exact lv_tableOut C.1 C.2.1 hd h ht (k p e s m args below meth c A H locs ls C hX hA hP hD hS hl)
theorem bw_tableIn {dflt lo hi : Int} {offs : Array Int} {len : Nat} {x : Int32} {off : Int} (tgt : Nat) (hd : decode cc pc = .ok (.tableswitch dflt lo hi offs, len)) (h1 : ¬ x.toInt < lo) (h2 : ¬ hi < x.toInt) (ho : offs[(x.toInt - lo).toNat]? = some off) (ht : (pc : Int) + off = (tgt : Int)) (k : bwR l g cc nL own nm ret rm PX Zf tgt lv st ws kc ks) : bwR l g cc nL own nm ret rm PX Zf pc lv (.int x :: st) ws kc ks := by
  intro p e s m args below meth c A H locs ls C hX hA hP hD hS hl
  exact lv_tableIn C.1 C.2.1 hd h1 h2 ho ht (k p e s m args below meth c A H locs ls C hX hA hP hD hS hl)
theorem bw_lv (is : List Nat) {lv1 : List (Nat × Value)} (hf : lv_pick lv is = lv1) (k : bwR l g cc nL own nm ret rm PX Zf pc lv1 st ws kc ks) : bwR l g cc nL own nm ret rm PX Zf pc lv st ws kc ks := by
  intro p e s m args below meth c A H locs ls C hX hA hP hD hS hl
  exact k p e s m args below meth c A H locs ls C hX hA hP hD hS (lv_sub hl is hf)
theorem bw_st {st1 : List Value} (h : st = st1) (k : bwR l g cc nL own nm ret rm PX Zf pc lv st1 ws kc ks) : bwR l g cc nL own nm ret rm PX Zf pc lv st ws kc ks := h ▸ k
theorem bw_ws {ws1 : va_W} (h : ws = ws1) (k : bwR l g cc nL own nm ret rm PX Zf pc lv st ws1 kc ks) : bwR l g cc nL own nm ret rm PX Zf pc lv st ws kc ks := h ▸ k
theorem bw_wide {k1 n1 : Nat} (h1 : kc ≤ k1) (h2 : ks ≤ n1) (k : bwR l g cc nL own nm ret rm PX Zf pc lv st ws k1 n1) : bwR l g cc nL own nm ret rm PX Zf pc lv st ws kc ks := by
  intro p e s m args below meth c A H locs ls C hX hA hP hD hS hl
  exact W.widen h1 h2 (k p e s m args below meth c A H locs ls C hX hA hP hD hS hl)
theorem bw_P {D : va_G} {cl : List vw_C} {ws ws1 : va_W} {H : Heap} (h : ∀ q ∈ ws1, q ∈ ws) (hP : va_P D cl ws H) : va_P D cl ws1 H := by
  intro k q hq
  obtain ⟨i, hi⟩ := List.getElem?_of_mem (h q (List.mem_of_getElem? hq))
  exact hP i q hi
theorem bw_D1 {A : Nat → Prop} {ws : va_W} (h : va_D A ws) : (ws.map Prod.fst).Nodup := by
  rw [List.nodup_iff_pairwise_ne, List.pairwise_iff_getElem]
  intro i j hi hj hij h1
  rw [List.length_map] at hi hj
  rw [List.getElem_map, List.getElem_map] at h1
  have h2 := h.1 i j ws[i] ws[j] (List.getElem?_eq_getElem hi) (List.getElem?_eq_getElem hj) h1
  omega
theorem bw_D2 {A : Nat → Prop} {ws : va_W} (h : (ws.map Prod.fst).Nodup) (hA : ∀ q ∈ ws, A q.1) : va_D A ws := by
  refine ⟨fun i j p q hi hj e => ?_, fun k q hk => hA q (List.mem_of_getElem? hk)⟩
  have hi' := (List.getElem?_eq_some_iff.mp hi).1
  have hj' := (List.getElem?_eq_some_iff.mp hj).1
  rw [List.nodup_iff_pairwise_ne, List.pairwise_iff_getElem] at h
  have li : i < (ws.map Prod.fst).length := by rw [List.length_map]; exact hi'
  have lj : j < (ws.map Prod.fst).length := by rw [List.length_map]; exact hj'
  have e1 : (ws.map Prod.fst)[i] = p.1 := by rw [List.getElem_map]; exact congrArg Prod.fst (Option.some.inj ((List.getElem?_eq_getElem hi').symm.trans hi))
  have e2 : (ws.map Prod.fst)[j] = q.1 := by rw [List.getElem_map]; exact congrArg Prod.fst (Option.some.inj ((List.getElem?_eq_getElem hj').symm.trans hj))
  rcases Nat.lt_trichotomy i j with q1 | q1 | q1
  · exact absurd (by rw [e1, e2, e]) (h i j li lj q1)
  · exact q1
  · exact absurd (by rw [e1, e2, e]) (h j i lj li q1)
theorem bw_D2' {A : Nat → Prop} {ws : va_W} (h : va_D A ws) : ∀ q ∈ ws, A q.1 := by
  intro q hq
  obtain ⟨i, hi⟩ := List.getElem?_of_mem hq
  exact h.2 i q hi
theorem bw_Dp {A : Nat → Prop} {ws ws1 : va_W} (h : ws1.Perm ws) (hD : va_D A ws) : va_D A ws1 :=
  bw_D2 ((h.map Prod.fst).nodup_iff.mpr (bw_D1 hD)) (fun q hq => bw_D2' hD q (h.mem_iff.mp hq))
theorem bw_pick {α : Type} (X : List α) (is : List Nat) (h : is.Perm (List.range X.length)) : (is.filterMap (fun i => X[i]?)).Perm X := by
  have h1 := h.filterMap (fun i => X[i]?)
  have h2 : (List.range X.length).filterMap (fun i => X[i]?) = X := by
    clear h h1 is
    induction X with
    | nil => rfl
    | cons a X ih =>
      rw [List.length_cons, List.range_succ_eq_map, List.filterMap_cons]
      show a :: _ = _
      rw [List.filterMap_map]
      exact congrArg (a :: ·) ih
  rw [h2] at h1
  exact h1
theorem bw_perm {ws1 : va_W} (h : ws1.Perm ws) (k : bwR l g cc nL own nm ret rm PX Zf pc lv st ws1 kc ks) : bwR l g cc nL own nm ret rm PX Zf pc lv st ws kc ks := by
  intro p e s m args below meth c A H locs ls C hX hA hP hD hS hl
  exact k p e s m args below meth c A H locs ls C hX hA (bw_P (fun q hq => h.mem_iff.mp hq) hP) (bw_Dp h hD) hS hl
theorem bw_get (C0 : String) (T : u_T) (N ci q0 f : Nat) {index a : Nat} {fs : List Value} {v : Value} (hin : ∀ w ∈ u_ws C0 T N, w ∈ bw_all) (hc : vwCl[ci]? = some (C0, T, N)) (hf : f < N) (hlink : Cond.fieldLink own index (T f).1 (T f).2.1 (T f).2.2.1 ∈ bw_all) (he : ws[q0]? = some (a, .inr (ci, fs))) (hv : fs[f]? = some v) (hd : decode cc pc = .ok (.getfield index, 3)) (k : bwR l g cc nL own nm ret rm PX Zf (pc + 3) lv (v :: st) ws kc ks) : bwR l g cc nL own nm ret rm PX Zf pc lv (.ref a :: st) ws kc ks := by
  intro p e s m args below meth c A H locs ls C hX hA hP hD hS hl
  exact va_get C.1 C.2.1 C.2.2.2.2.1 hin C.2.2.2.1 C.2.2.2.2.2.2.2.2.1 hP q0 he hc f hf (C.2.2.2.2.1 _ hlink) (fun _ h => h) hv hd (k p e s m args below meth c A H locs ls C hX hA hP hD hS hl)
theorem bw_put (C0 : String) (T : u_T) (N ci q0 f : Nat) {index a : Nat} {fs : List Value} {v : Value} {ty : FieldType} (ws1 : va_W) (ty0 : Nat → FieldType) (hty : ∀ k, k < N → parseFieldDescriptor (T k).2.2.1 = some (ty0 k)) (hnm : ∀ a, a < N → ∀ b, b < N → a ≠ b → (T a).2.1 ≠ (T b).2.1) (hin : ∀ w ∈ u_ws C0 T N, w ∈ bw_all) (hc : vwCl[ci]? = some (C0, T, N)) (hf : f < N) (hlink : Cond.fieldLink own index (T f).1 (T f).2.1 (T f).2.2.1 ∈ bw_all) (hfin : (T f).2.2.2 = false) (hde : parseFieldDescriptor (T f).2.2.1 = some ty) (hna : narrow ty v = v) (hfi : fits ty v = true) (he : ws[q0]? = some (a, .inr (ci, fs))) (hl0 : f < fs.length) (hw : ws.set q0 (a, .inr (ci, fs.set f v)) = ws1) (hd : decode cc pc = .ok (.putfield index, 3)) (k : bwR l g cc nL own nm ret rm PX Zf (pc + 3) lv st ws1 kc ks) : bwR l g cc nL own nm ret rm PX Zf pc lv (v :: .ref a :: st) ws kc ks := by
  intro p e s m args below meth c A H locs ls C hX hA hP hD hS hl
  subst hw
  exact va_put C.1 C.2.1 C.2.2.2.2.1 hin ty0 hty hnm C.2.2.2.1 C.2.2.2.2.2.2.2.2.1 hP hD hS q0 he hc f hf (C.2.2.2.2.1 _ hlink) (fun _ h => h) hfin hde hna hfi hl0 hd (fun H1 locs1 hP1 hD1 hS1 => k p e s m args below meth c A H1 locs1 ls C hX hA hP1 hD1 hS1 hl)
theorem bw_putF (C0 : String) (T : u_T) (N ci q0 f : Nat) {index a : Nat} {fs : List Value} {v : Value} {ty : FieldType} (ws1 : va_W) (ty0 : Nat → FieldType) (hty : ∀ k, k < N → parseFieldDescriptor (T k).2.2.1 = some (ty0 k)) (hnm : ∀ a, a < N → ∀ b, b < N → a ≠ b → (T a).2.1 ≠ (T b).2.1) (hin : ∀ w ∈ u_ws C0 T N, w ∈ bw_all) (hc : vwCl[ci]? = some (C0, T, N)) (hf : f < N) (hlink : Cond.fieldLink own index (T f).1 (T f).2.1 (T f).2.2.1 ∈ bw_all) (hfin : (T f).2.2.2 = true) (hn0 : nm = "<init>") (how : (T f).1 = own) (hde : parseFieldDescriptor (T f).2.2.1 = some ty) (hna : narrow ty v = v) (hfi : fits ty v = true) (he : ws[q0]? = some (a, .inr (ci, fs))) (hl0 : f < fs.length) (hw : ws.set q0 (a, .inr (ci, fs.set f v)) = ws1) (hd : decode cc pc = .ok (.putfield index, 3)) (k : bwR l g cc nL own nm ret rm PX Zf (pc + 3) lv st ws1 kc ks) : bwR l g cc nL own nm ret rm PX Zf pc lv (v :: .ref a :: st) ws kc ks := by
  intro p e s m args below meth c A H locs ls C hX hA hP hD hS hl
  subst hw
  exact va_putF C.1 C.2.1 C.2.2.2.2.1 hin ty0 hty hnm C.2.2.2.1 C.2.2.2.2.2.2.2.2.1 hP hD hS q0 he hc f hf (C.2.2.2.2.1 _ hlink) (fun _ h => h) hfin (C.2.2.2.2.2.2.2.1.trans hn0) how hde hna hfi hl0 hd (fun H1 locs1 hP1 hD1 hS1 => k p e s m args below meth c A H1 locs1 ls C hX hA hP1 hD1 hS1 hl)
theorem bw_iald (q0 : Nat) {a n : Nat} {f : Nat → Int32} {i : Int32} (he : ws[q0]? = some (a, .inl (g.2.1, n, .inl f))) (hin : vp_in i n) (hd : decode cc pc = .ok (.iaload, 1)) (k : bwR l g cc nL own nm ret rm PX Zf (pc + 1) lv (.int (f i.toNatClampNeg) :: st) ws kc ks) : bwR l g cc nL own nm ret rm PX Zf pc lv (.int i :: .ref a :: st) ws kc ks := by
  intro p e s m args below meth c A H locs ls C hX hA hP hD hS hl
  exact va_iald C.1 C.2.1 C.2.2.2.2.2.2.2.2.1 hP q0 0 he rfl hin hd (k p e s m args below meth c A H locs ls C hX hA hP hD hS hl)
theorem bw_cald (q0 : Nat) {a n : Nat} {f : Nat → Int32} {i : Int32} (he : ws[q0]? = some (a, .inl (g.2.2.1, n, .inl f))) (hin : vp_in i n) (hd : decode cc pc = .ok (.caload, 1)) (k : bwR l g cc nL own nm ret rm PX Zf (pc + 1) lv (.int (f i.toNatClampNeg) :: st) ws kc ks) : bwR l g cc nL own nm ret rm PX Zf pc lv (.int i :: .ref a :: st) ws kc ks := by
  intro p e s m args below meth c A H locs ls C hX hA hP hD hS hl
  exact va_cald C.1 C.2.1 C.2.2.2.2.2.2.2.2.1 hP q0 1 he rfl hin hd (k p e s m args below meth c A H locs ls C hX hA hP hD hS hl)
theorem bw_aald (q0 : Nat) {a n : Nat} {f : Nat → Option Nat} {i : Int32} (he : ws[q0]? = some (a, .inl (g.2.2.2, n, .inr (.inr (.inr (.inr f)))))) (hin : vp_in i n) (hd : decode cc pc = .ok (.aaload, 1)) (k : bwR l g cc nL own nm ret rm PX Zf (pc + 1) lv (va_rf (f i.toNatClampNeg) :: st) ws kc ks) : bwR l g cc nL own nm ret rm PX Zf pc lv (.int i :: .ref a :: st) ws kc ks := by
  intro p e s m args below meth c A H locs ls C hX hA hP hD hS hl
  exact va_aldq C.1 C.2.1 C.2.2.2.2.2.2.2.2.1 hP q0 2 he rfl hin hd (k p e s m args below meth c A H locs ls C hX hA hP hD hS hl)
theorem bw_iast (q0 : Nat) {a n : Nat} {f : Nat → Int32} {i x : Int32} (ws1 : va_W) (he : ws[q0]? = some (a, .inl (g.2.1, n, .inl f))) (hin : vp_in i n) (hw : ws.set q0 (a, .inl (g.2.1, n, .inl (upd f i.toNatClampNeg x))) = ws1) (hd : decode cc pc = .ok (.iastore, 1)) (k : bwR l g cc nL own nm ret rm PX Zf (pc + 1) lv st ws1 kc ks) : bwR l g cc nL own nm ret rm PX Zf pc lv (.int x :: .int i :: .ref a :: st) ws kc ks := by
  intro p e s m args below meth c A H locs ls C hX hA hP hD hS hl
  subst hw
  exact va_iast C.1 C.2.1 C.2.2.2.2.2.2.2.2.1 hP hD hS q0 0 he rfl hin hd (fun H1 locs1 hP1 hD1 hS1 => k p e s m args below meth c A H1 locs1 ls C hX hA hP1 hD1 hS1 hl)
theorem bw_cast (q0 : Nat) {a n : Nat} {f : Nat → Int32} {i x : Int32} (ws1 : va_W) (he : ws[q0]? = some (a, .inl (g.2.2.1, n, .inl f))) (hin : vp_in i n) (hw : ws.set q0 (a, .inl (g.2.2.1, n, .inl (upd f i.toNatClampNeg (vp_nar .char x)))) = ws1) (hd : decode cc pc = .ok (.castore, 1)) (k : bwR l g cc nL own nm ret rm PX Zf (pc + 1) lv st ws1 kc ks) : bwR l g cc nL own nm ret rm PX Zf pc lv (.int x :: .int i :: .ref a :: st) ws kc ks := by
  intro p e s m args below meth c A H locs ls C hX hA hP hD hS hl
  subst hw
  exact va_cast C.1 C.2.1 C.2.2.2.2.2.2.2.2.1 hP hD hS q0 1 he rfl hin hd (fun H1 locs1 hP1 hD1 hS1 => k p e s m args below meth c A H1 locs1 ls C hX hA hP1 hD1 hS1 hl)
theorem bw_aast (q0 qk : Nat) {a n v : Nat} {vs : List Value} {f : Nat → Option Nat} {i : Int32} (ws1 : va_W) (he : ws[q0]? = some (a, .inl (g.2.2.2, n, .inr (.inr (.inr (.inr f)))))) (hv : ws[qk]? = some (v, .inr (0, vs))) (hin : vp_in i n) (hw : ws.set q0 (a, .inl (g.2.2.2, n, .inr (.inr (.inr (.inr (va_up f i.toNatClampNeg (some v))))))) = ws1) (hd : decode cc pc = .ok (.aastore, 1)) (k : bwR l g cc nL own nm ret rm PX Zf (pc + 1) lv st ws1 kc ks) : bwR l g cc nL own nm ret rm PX Zf pc lv (.ref v :: .int i :: .ref a :: st) ws kc ks := by
  intro p e s m args below meth c A H locs ls C hX hA hP hD hS hl
  subst hw
  exact va_astq (r := (RX0, TX0, 8)) C.1 C.2.1 C.2.2.2.2.2.2.2.2.1 hP hD hS q0 2 qk 0 he rfl hv rfl hin hd (fun H1 locs1 hP1 hD1 hS1 => k p e s m args below meth c A H1 locs1 ls C hX hA hP1 hD1 hS1 hl)
theorem bw_alen (q0 t0 : Nat) {a : Nat} {cA : ClassId} {x : vp_A} {ty : FieldType} (v : Int32) (he : ws[q0]? = some (a, .inl (cA, x))) (ht : (bw_tys g)[t0]? = some (cA, ty)) (hv : Int32.ofNat x.1 = v) (hd : decode cc pc = .ok (.arraylength, 1)) (k : bwR l g cc nL own nm ret rm PX Zf (pc + 1) lv (.int v :: st) ws kc ks) : bwR l g cc nL own nm ret rm PX Zf pc lv (.ref a :: st) ws kc ks := by
  intro p e s m args below meth c A H locs ls C hX hA hP hD hS hl
  exact va_alen C.1 C.2.1 C.2.2.2.2.2.2.2.2.1 hP q0 t0 he ht hv hd (k p e s m args below meth c A H locs ls C hX hA hP hD hS hl)
/-- a new object: at any address (apart from all that are) -/
theorem bw_new (C0 : String) (T : u_T) (N ci : Nat) {index : Nat} (fs : List Value) (ty : Nat → FieldType) (hty : ∀ k, k < N → parseFieldDescriptor (T k).2.2.1 = some (ty k)) (hin : ∀ w ∈ u_ws C0 T N, w ∈ bw_all) (hc : vwCl[ci]? = some (C0, T, N)) (hcl : Cond.classLink own index C0 ∈ bw_all) (hins : Cond.instantiable C0 N ∈ bw_all) (hini : Cond.initialized C0 ∈ bw_all) (hfs : ∀ j, j < N → defaultValue (ty j) = vp_V fs j) (hcs : kc + 1 ≤ rm.cells ∧ ks + N ≤ rm.slots) (hd : decode cc pc = .ok (.new index, 3))
    (k : ∀ q : Nat, bwR l g cc nL own nm ret rm PX Zf (pc + 3) lv (.ref q :: st) (ws ++ [(q, .inr (ci, fs))]) (kc + 1) (ks + N)) : bwR l g cc nL own nm ret rm PX Zf pc lv st ws kc ks := by
  intro p e s m args below meth c A H locs ls C hX hA hP hD hS hl
  exact va_new C.1 C.2.1 C.2.2.2.2.1 hin ty hty C.2.2.2.1 (C.2.2.2.2.1 _ hcl) (C.2.2.2.2.1 _ hins) (C.2.2.2.2.1 _ hini) C.2.2.2.2.2.2.2.2.1 hP hD hS hA hc hfs hcs.1 hcs.2 hd (fun q H1 hP1 hD1 hS1 => k q p e s m args below meth c A H1 locs ls C hX hA hP1 hD1 hS1 hl)
theorem bw_newI (N : Nat) {n : Int32} (harr : Cond.arrayClass .int ∈ bw_all) (hn : ¬ n < 0) (hN : n.toNatClampNeg = N) (hby : N * componentBytes .int ≤ 536870912) (hcs : kc + 1 ≤ rm.cells ∧ ks + N ≤ rm.slots) (hd : decode cc pc = .ok (.newarray .int, 2))
    (k : ∀ q : Nat, bwR l g cc nL own nm ret rm PX Zf (pc + 2) lv (.ref q :: st) (ws ++ [(q, .inl (g.2.1, N, .inl (fun _ => 0)))]) (kc + 1) (ks + N)) : bwR l g cc nL own nm ret rm PX Zf pc lv (.int n :: st) ws kc ks := by
  intro p e s m args below meth c A H locs ls C hX hA hP hD hS hl
  refine va_newa (atype := .int) (ty := .int) (a0 := (N, .inl (fun _ => 0))) C.1 C.2.1 (C.2.2.2.2.1 _ harr) rfl C.2.2.2.2.2.2.2.2.1 hP hD hS hA (fun cA => by rfl) hn hN hby hcs.1 hcs.2 hd (fun q cA H1 hK1 hP1 hD1 hS1 => ?_)
  have e1 := ((hK1.2 3 (cA, .int) rfl).2 : s.vm.findClass _ = some cA)
  have e2 := ((hK1.2 0 (g.2.1, .int) rfl).2 : s.vm.findClass _ = some g.2.1)
  have e3 : cA = g.2.1 := Option.some.inj (e1.symm.trans e2)
  subst e3
  exact k q p e s m args below meth c A H1 locs ls C hX hA hP1 hD1 hS1 hl
theorem bw_newC (N : Nat) {n : Int32} (harr : Cond.arrayClass .char ∈ bw_all) (hn : ¬ n < 0) (hN : n.toNatClampNeg = N) (hby : N * componentBytes .char ≤ 536870912) (hcs : kc + 1 ≤ rm.cells ∧ ks + N ≤ rm.slots) (hd : decode cc pc = .ok (.newarray .char, 2))
    (k : ∀ q : Nat, bwR l g cc nL own nm ret rm PX Zf (pc + 2) lv (.ref q :: st) (ws ++ [(q, .inl (g.2.2.1, N, .inl (fun _ => 0)))]) (kc + 1) (ks + N)) : bwR l g cc nL own nm ret rm PX Zf pc lv (.int n :: st) ws kc ks := by
  intro p e s m args below meth c A H locs ls C hX hA hP hD hS hl
  refine va_newa (atype := .char) (ty := .char) (a0 := (N, .inl (fun _ => 0))) C.1 C.2.1 (C.2.2.2.2.1 _ harr) rfl C.2.2.2.2.2.2.2.2.1 hP hD hS hA (fun cA => by rfl) hn hN hby hcs.1 hcs.2 hd (fun q cA H1 hK1 hP1 hD1 hS1 => ?_)
  have e1 := ((hK1.2 3 (cA, .char) rfl).2 : s.vm.findClass _ = some cA)
  have e2 := ((hK1.2 1 (g.2.2.1, .char) rfl).2 : s.vm.findClass _ = some g.2.2.1)
  have e3 : cA = g.2.2.1 := Option.some.inj (e1.symm.trans e2)
  subst e3
  exact k q p e s m args below meth c A H1 locs ls C hX hA hP1 hD1 hS1 hl
theorem bw_newQ (N : Nat) {index : Nat} {n : Int32} (hcl : Cond.classLink own index RX0 ∈ bw_all) (hn : ¬ n < 0) (hN : n.toNatClampNeg = N) (hby : N * 4 ≤ 536870912) (hcs : kc + 1 ≤ rm.cells ∧ ks + N ≤ rm.slots) (hd : decode cc pc = .ok (.anewarray index, 3))
    (k : ∀ q : Nat, bwR l g cc nL own nm ret rm PX Zf (pc + 3) lv (.ref q :: st) (ws ++ [(q, .inl (g.2.2.2, N, .inr (.inr (.inr (.inr (fun _ => none))))))]) (kc + 1) (ks + N)) : bwR l g cc nL own nm ret rm PX Zf pc lv (.int n :: st) ws kc ks := by
  intro p e s m args below meth c A H locs ls C hX hA hP hD hS hl
  refine va_newq C.1 C.2.1 C.2.2.2.1 (C.2.2.2.2.1 _ hcl) C.2.2.2.2.2.2.2.2.2.2 C.2.2.2.2.2.2.2.2.1 hP hD hS hA hn hN hby hcs.1 hcs.2 hd (fun q cA H1 hK1 hP1 hD1 hS1 => ?_)
  obtain ⟨kA1, comp1, -, -, -, e1⟩ := ((hK1.2 3 (cA, .object RX0) rfl).2 : va_RA s cA (.object RX0))
  obtain ⟨kA2, comp2, -, -, -, e2⟩ := ((hK1.2 2 (g.2.2.2, .object RX0) rfl).2 : va_RA s g.2.2.2 (.object RX0))
  have e3 : cA = g.2.2.2 := Option.some.inj (e1.symm.trans e2)
  subst e3
  exact k q p e s m args below meth c A H1 locs ls C hX hA hP1 hD1 hS1 hl
theorem bw_objInit {idx a : Nat} (hlink : Cond.methodLink own idx Lib.objectInit ∈ bw_all) (hinst : Cond.instanceMethod Lib.objectInit ∈ bw_all) (hcode : Cond.code Lib.objectInit ⟨#[0xb1]⟩ 1 none ∈ bw_all) (hd : decode cc pc = .ok (.invokespecial idx, 3)) (hfr : 1 ≤ rm.frames) (hlo : (st.map fun v => v.category).sum + 12 ≤ rm.locals) (k : bwR l g cc nL own nm ret rm PX Zf (pc + 3) lv st ws kc ks) : bwR l g cc nL own nm ret rm PX Zf pc lv (.ref a :: st) ws kc ks := by
  intro p e s m args below meth c A H locs ls C hX hA hP hD hS hl
  refine W.objInit C.1 C.2.1 C.2.2.2.1 (C.2.2.2.2.1 _ hlink) (C.2.2.2.2.1 _ hinst) (C.2.2.2.2.1 _ hcode) rfl (by rw [C.2.2.1]; exact hl.1) rfl hd hfr (by show 2 * 0 + _ + 12 ≤ _; omega) ?_
  exact W.eq (g2 := F0 m (pc + 3) ls st) rfl (k p e s m args below meth c A H locs ls C hX hA hP hD hS hl)
theorem bw_mmax {index : Nat} {x y : Int32} (hlink : Cond.methodLink own index Lib.Math.max.name ∈ bw_all) (hstat : Cond.static Lib.Math.max.name ∈ bw_all) (hini : Cond.initialized "java/lang/Math" ∈ bw_all) (hcode : Cond.code Lib.Math.max.name Lib.Math.max.code 2 (some .int) ∈ bw_all) (hfr : 1 ≤ rm.frames) (hlo : (st.map fun v => v.category).sum + 13 ≤ rm.locals) (hcs : kc ≤ rm.cells ∧ ks ≤ rm.slots) (hd : decode cc pc = .ok (.invokestatic index, 3)) (k : bwR l g cc nL own nm ret rm PX Zf (pc + 3) lv (.int (if x < y then y else x) :: st) ws kc ks) : bwR l g cc nL own nm ret rm PX Zf pc lv (.int y :: .int x :: st) ws kc ks := by
  intro p e s m args below meth c A H locs ls C hX hA hP hD hS hl
  exact va_mmax C.1 C.2.1 (by rw [C.2.2.1]; exact hl.1.symm) C.2.2.2.1 (C.2.2.2.2.1 _ hlink) (C.2.2.2.2.1 _ hstat) (C.2.2.2.2.1 _ hini) (C.2.2.2.2.1 _ hcode) hfr hlo hcs.1 hcs.2 hd (k p e s m args below meth c A H locs ls C hX hA hP hD hS hl)
theorem bw_mmin {index : Nat} {x y : Int32} (hlink : Cond.methodLink own index Lib.Math.min.name ∈ bw_all) (hstat : Cond.static Lib.Math.min.name ∈ bw_all) (hini : Cond.initialized "java/lang/Math" ∈ bw_all) (hcode : Cond.code Lib.Math.min.name Lib.Math.min.code 2 (some .int) ∈ bw_all) (hfr : 1 ≤ rm.frames) (hlo : (st.map fun v => v.category).sum + 13 ≤ rm.locals) (hcs : kc ≤ rm.cells ∧ ks ≤ rm.slots) (hd : decode cc pc = .ok (.invokestatic index, 3)) (k : bwR l g cc nL own nm ret rm PX Zf (pc + 3) lv (.int (if y < x then y else x) :: st) ws kc ks) : bwR l g cc nL own nm ret rm PX Zf pc lv (.int y :: .int x :: st) ws kc ks := by
  intro p e s m args below meth c A H locs ls C hX hA hP hD hS hl
  exact va_mmin C.1 C.2.1 (by rw [C.2.2.1]; exact hl.1.symm) C.2.2.2.1 (C.2.2.2.2.1 _ hlink) (C.2.2.2.2.1 _ hstat) (C.2.2.2.2.1 _ hini) (C.2.2.2.2.1 _ hcode) hfr hlo hcs.1 hcs.2 hd (k p e s m args below meth c A H locs ls C hX hA hP hD hS hl)
/-- the ends: the answer and the cells are as Q says -/
theorem bw_ret {Q : Option Value → va_W → Prop} {mc ms : Nat} {v : Int32} {ty : FieldType} (hr : ret = some ty) (hn : narrow ty (.int v) = .int v) (hk : kc ≤ mc) (hs : ks ≤ ms) (hd : decode cc pc = .ok (.ireturn, 1)) (hQ : Q (some (.int v)) ws) : bwR l g cc nL own nm ret rm bwT (bwZ g Q mc ms) pc lv [.int v] ws kc ks := by
  intro p e s m args below meth c A H locs ls C hX hA hP hD hS hl
  refine W.widen hk hs (W.zret (hlocks := C.2.2.2.2.2.2.1) C.1 C.2.1 (C.2.2.2.2.2.1.trans hr) hn (fun t ht hW => ⟨⟨_, ws, rfl, hQ, by rw [ht]; exact hP, hD⟩, hS.F ht⟩) hS.2.2 hd)
theorem bw_vret {Q : Option Value → va_W → Prop} {mc ms : Nat} (hr : ret = none) (hk : kc ≤ mc) (hs : ks ≤ ms) (hd : decode cc pc = .ok (.return_, 1)) (hQ : Q none ws) : bwR l g cc nL own nm ret rm bwT (bwZ g Q mc ms) pc lv [] ws kc ks := by
  intro p e s m args below meth c A H locs ls C hX hA hP hD hS hl
  refine W.widen hk hs (W.vret (hlocks := C.2.2.2.2.2.2.1) C.1 C.2.1 (C.2.2.2.2.2.1.trans hr) (fun t ht hW => ⟨⟨_, ws, rfl, hQ, by rw [ht]; exact hP, hD⟩, hS.F ht⟩) hS.2.2 hd)
theorem bw_aret {Q : Option Value → va_W → Prop} {mc ms : Nat} {a : Nat} {cn : String} (hr : ret = some (.object cn)) (hk : kc ≤ mc) (hs : ks ≤ ms) (hd : decode cc pc = .ok (.areturn, 1)) (hQ : Q (some (.ref a)) ws) : bwR l g cc nL own nm ret rm bwT (bwZ g Q mc ms) pc lv [.ref a] ws kc ks := by
  intro p e s m args below meth c A H locs ls C hX hA hP hD hS hl
  refine W.widen hk hs (W.aret (hlocks := C.2.2.2.2.2.2.1) C.1 C.2.1 (C.2.2.2.2.2.1.trans hr) (Or.inl ⟨_, rfl⟩) (Or.inr ⟨_, rfl⟩) (fun t ht hW => ⟨⟨_, ws, rfl, hQ, by rw [ht]; exact hP, hD⟩, hS.F ht⟩) hS.2.2 hd)
end BWR
/-- a contract out of the walk of the body -/
theorem bwS_of {l : Launch} {g : bwG} {y : MethodName} {cc : ByteArray} {nL : Nat} {ret : Option FieldType} {rm : Room} {as : List Value} {ws : va_W} {Q : Option Value → va_W → Prop} (hy : plainName y.cls = true) (hsl : (lg_sl as).length ≤ nL)
    (h : bwR l g cc nL y.cls y.name ret rm bwT (bwZ g Q rm.cells rm.slots) 0 (lv_args 0 as) [] ws 0 0) : bwS l g y cc nL ret rm as ws Q := by
  intro sz
  refine Met.ofW (cc := cc) (maxL := nL) (ret := ret) hy rfl ?_
  intro p e s m args below meth c s₁ B hml hv
  obtain ⟨rfl, hsz, hP, hK, hN, hD0⟩ := hv
  have hts := atoms_spec (ws := .code y cc nL ret :: bw_all) B.pre
  subst hsz
  rw [lg_entry_eq]
  exact h p e s m as.toArray below meth c (va_A ws s.heap.size) s.heap [] _ ⟨B.exec, B.bytes, hml, findClass_of_methodNamed B.named, fun w hw => hts w (List.mem_cons_of_mem _ hw), B.returns, B.notSynchronized, (name_of_methodNamed B.named B.method).1, hK, hN⟩ trivial (fun q hq => Or.inr hq) hP hD0.self va_S.rf (lv_entry as hsl)

section BWC
variable {l : Launch} {g : bwG} {cc : ByteArray} {nL : Nat} {own nm : String} {ret : Option FieldType} {rm : Room} {PX : State → Array Value → (Nat → Prop) → Prop} {Zf : State → Array Value → List Frame → (Nat → Prop) → State → Prop} {pc : Nat} {lv : List (Nat × Value)} {st : List Value} {ws : va_W} {kc ks : Nat}
/-- what stands behind a call: the callee's cells wc, taken out of ws, come back as w1 -/
theorem bw_back {p : Program} {e : Env} {s : State} {m : MethodId} {args : Array Value} {below : List Frame} {meth : Method} {c : Code} {A : Nat → Prop} {H : Heap} {locs : List Loc} {ls : Array Slot} {Q' : Option Value → va_W → Prop} {wc wr : va_W} {mc ms : Nat} {st0 rest : List Value} {aa : Array Value}
    (C : bwC g cc nL own nm ret p s m args meth c) (hX : PX s args A) (hA : ∀ q : Nat, s.heap.size ≤ q → A q) (hP : va_P g.1 vwCl ws H) (hD : va_D A ws) (hS : va_S A s.heap H locs) (hl : lv_has ls nL lv) (hperm : (wc ++ wr).Perm ws)
    (hr : va_Run p l e rm s m args below meth c H locs kc ks mc ms (F0 m pc ls st0) rest (bwQ g Q' (va_A wc H.size) aa) (va_A wc H.size))
    (k : ∀ (r : Option Value) (w1 : va_W), Q' r w1 → bwR l g cc nL own nm ret rm PX Zf (pc + 3) lv (r.toList ++ rest) (wr ++ w1) (kc + mc) (ks + ms)) : W p l e rm s m args below meth c H locs kc ks (Zf s args below A) (F0 m pc ls st0) := by
  intro T hT X
  obtain ⟨v, st₀, t, T', L, h0, X', hL, e1, e2, ⟨⟨r, w1, hv, hq, hP1, hD1⟩, hz, hk⟩, st⟩ := hr T hT X
  cases hv
  rw [h0] at hz hk
  have hmem : ∀ q ∈ wc, A q.1 := fun q hq => bw_D2' hD q (hperm.mem_iff.mp (List.mem_append_left _ hq))
  have hwA : ∀ q : Nat, va_A wc H.size q → A q := by
    intro q hq
    rcases hq with ⟨i, e0, hi⟩ | hq
    · exact hmem (q, e0) (List.mem_of_getElem? hi)
    · exact hA q (Nat.le_trans hS.1 hq)
  have hS1 : va_S A s.heap T'.heap (locs ++ L) := by
    refine ⟨Nat.le_trans hS.1 (by rw [e1]; exact hz), fun q h1 h2 => ?_, fun q hq => ?_⟩
    · rw [e1, hk q (Nat.lt_of_lt_of_le h1 hS.1) (fun z => h2 (hwA q z))]
      exact hS.2.1 q h1 h2
    · rcases List.mem_append.mp hq with h | h
      · exact hS.2.2 q h
      · exact hwA _ (hL q h)
  have hDp : va_D A (wc ++ wr) := bw_Dp hperm hD
  have hnd := bw_D1 hDp
  rw [List.map_append, List.nodup_append] at hnd
  have hPr : va_P g.1 vwCl wr T'.heap := by
    intro i q hq
    have hqm : q ∈ wr := List.mem_of_getElem? hq
    obtain ⟨j, hj⟩ := List.getElem?_of_mem (hperm.mem_iff.mp (List.mem_append_right wc hqm))
    have hat := hP j q hj
    refine hat.kept ?_
    rw [e1]
    refine hk q.1 hat.lt (fun z => ?_)
    rcases z with ⟨i2, e0, hi2⟩ | z
    · exact hnd.2.2 q.1 (List.mem_map.mpr ⟨(q.1, e0), List.mem_of_getElem? hi2, rfl⟩) q.1 (List.mem_map.mpr ⟨q, hqm, rfl⟩) rfl
    · exact absurd hat.lt (by omega)
  have hPa : va_P g.1 vwCl (wr ++ w1) T'.heap := va_P.app hPr (by rw [e1]; exact hP1)
  have hDa : va_D A (wr ++ w1) := by
    refine bw_D2 ?_ ?_
    · rw [List.map_append, List.nodup_append]
      refine ⟨hnd.2.1, bw_D1 hD1, ?_⟩
      intro a ha b hb hab
      subst hab
      obtain ⟨q, hq, rfl⟩ := List.mem_map.mp ha
      obtain ⟨q2, hq2, e3⟩ := List.mem_map.mp hb
      obtain ⟨j, hj⟩ := List.getElem?_of_mem (hperm.mem_iff.mp (List.mem_append_right wc hq))
      have hlt := (hP j q hj).lt
      have h4 := bw_D2' hD1 q2 hq2
      rw [e3] at h4
      rcases h4 with ⟨i2, e0, hi2⟩ | z
      · exact hnd.2.2 q.1 (List.mem_map.mpr ⟨(q.1, e0), List.mem_of_getElem? hi2, rfl⟩) q.1 (List.mem_map.mpr ⟨q, hq, rfl⟩) rfl
      · omega
    · intro q hq
      rcases List.mem_append.mp hq with h | h
      · exact bw_D2' hDp q (List.mem_append_right _ h)
      · exact hwA _ (bw_D2' hD1 q h)
  obtain ⟨t2, a1, b1⟩ := k _ w1 hq p e s m args below meth c A T'.heap (locs ++ L) ls C hX hA hPa hDa hS1 hl T' rfl X'
  exact ⟨t2, st t2 a1, b1⟩
theorem bw_callV (As rest : List Value) (wr : va_W) (q0 ci : Nat) {y : MethodName} {cy : ByteArray} {nLy : Nat} {rety : Option FieldType} {rmy : Room} {wc : va_W} {Q' : Option Value → va_W → Prop} {b : Nat} {fs : List Value} {T : u_T} {N index : Nat} (hM : bwS l g y cy nLy rety rmy (.ref b :: As) wc Q') (hst : st = As.reverse ++ .ref b :: rest) (hcode : Cond.code y cy nLy rety ∈ bw_all) (hini : Cond.initialized y.cls ∈ bw_all) (hlink : Cond.methodLink own index y ∈ bw_all) (hinst : Cond.instanceMethod y ∈ bw_all) (hsel : Cond.selects y.cls y y ∈ bw_all)
    (hy1 : y.cls ≠ "java/lang/invoke/MethodHandle" ∧ y.cls ≠ "java/lang/invoke/VarHandle" ∧ (parseMethodDescriptor y.desc).map (fun d => d.parameters.length) = some As.length) (hR : rmy.frames + 1 ≤ rm.frames ∧ 8 + (nLy + 11) + rmy.locals ≤ rm.locals) (hcs : kc + rmy.cells ≤ rm.cells ∧ ks + rmy.slots ≤ rm.slots) (hq0 : wc[q0]? = some (b, .inr (ci, fs))) (hci : vwCl[ci]? = some (y.cls, T, N)) (hperm : (wc ++ wr).Perm ws) (hro : (rest.map fun v => v.category).sum ≤ 8) (hd : decode cc pc = .ok (.invokevirtual index, 3))
    (k : ∀ (r : Option Value) (w1 : va_W), Q' r w1 → bwR l g cc nL own nm ret rm PX Zf (pc + 3) lv (r.toList ++ rest) (wr ++ w1) (kc + rmy.cells) (ks + rmy.slots)) : bwR l g cc nL own nm ret rm PX Zf pc lv st ws kc ks := by
  intro p e s m args below meth c A H locs ls C hX hA hP hD hS hl
  subst hst
  have hPc : va_P g.1 vwCl wc H := bw_P (fun q hq => hperm.mem_iff.mp (List.mem_append_left _ hq)) hP
  have hDc : va_D (fun _ => True) wc := by
    have h1 := bw_D1 (bw_Dp hperm hD)
    rw [List.map_append, List.nodup_append] at h1
    exact bw_D2 h1.1 (fun _ _ => trivial)
  have hG : GoodIn bw_all (.code y cy nLy rety :: bw_all) := fun w hw => (List.mem_cons.mp hw).elim (fun e0 => by subst e0; exact bw_good _ hcode) (fun h => bw_good w h)
  refine bw_back C hX hA hP hD hS hl hperm (va_runV (As := As) (rest := rest) (C := y.cls) (bytes := cy) (maxL := nLy) (ret := rety) ⟨C.1, C.2.1, C.2.2.1, C.2.2.2.1, C.2.2.2.2.1⟩ (hM H.size) ⟨callB_of As.length C.2.2.2.2.1 hG rfl rfl rfl (C.2.2.2.2.1 _ hini) (C.2.2.2.2.1 _ hlink) hy1 hR, C.2.2.2.2.1 _ hinst, C.2.2.2.2.1 _ hsel⟩ ⟨bw_blind, va_recv C.2.2.2.2.2.2.2.2.1 hPc hci hq0, fun U hU hW => ⟨rfl, by rw [hU], by rw [hU]; exact hPc, va_K.moved hW.alike C.2.2.2.2.2.2.2.2.1, bw_nestW hW C.2.2.2.2.2.2.2.2.2, hDc⟩⟩ rfl rfl hl.1 rfl (lv_room hro) hd hcs) k
theorem bw_callS (As rest : List Value) (wr : va_W) {y : MethodName} {cy : ByteArray} {nLy : Nat} {rety : Option FieldType} {rmy : Room} {wc : va_W} {Q' : Option Value → va_W → Prop} {index : Nat} (hM : bwS l g y cy nLy rety rmy As wc Q') (hst : st = As.reverse ++ rest) (hcode : Cond.code y cy nLy rety ∈ bw_all) (hini : Cond.initialized y.cls ∈ bw_all) (hlink : Cond.methodLink own index y ∈ bw_all) (hstat : Cond.static y ∈ bw_all)
    (hy1 : y.cls ≠ "java/lang/invoke/MethodHandle" ∧ y.cls ≠ "java/lang/invoke/VarHandle" ∧ (parseMethodDescriptor y.desc).map (fun d => d.parameters.length) = some As.length) (hR : rmy.frames + 1 ≤ rm.frames ∧ 8 + (nLy + 11) + rmy.locals ≤ rm.locals) (hcs : kc + rmy.cells ≤ rm.cells ∧ ks + rmy.slots ≤ rm.slots) (hperm : (wc ++ wr).Perm ws) (hro : (rest.map fun v => v.category).sum ≤ 8) (hd : decode cc pc = .ok (.invokestatic index, 3))
    (k : ∀ (r : Option Value) (w1 : va_W), Q' r w1 → bwR l g cc nL own nm ret rm PX Zf (pc + 3) lv (r.toList ++ rest) (wr ++ w1) (kc + rmy.cells) (ks + rmy.slots)) : bwR l g cc nL own nm ret rm PX Zf pc lv st ws kc ks := by
  intro p e s m args below meth c A H locs ls C hX hA hP hD hS hl
  subst hst
  have hPc : va_P g.1 vwCl wc H := bw_P (fun q hq => hperm.mem_iff.mp (List.mem_append_left _ hq)) hP
  have hDc : va_D (fun _ => True) wc := by
    have h1 := bw_D1 (bw_Dp hperm hD)
    rw [List.map_append, List.nodup_append] at h1
    exact bw_D2 h1.1 (fun _ _ => trivial)
  have hG : GoodIn bw_all (.code y cy nLy rety :: bw_all) := fun w hw => (List.mem_cons.mp hw).elim (fun e0 => by subst e0; exact bw_good _ hcode) (fun h => bw_good w h)
  refine bw_back C hX hA hP hD hS hl hperm (va_runS (As := As) (rest := rest) (bytes := cy) (maxL := nLy) (ret := rety) ⟨C.1, C.2.1, C.2.2.1, C.2.2.2.1, C.2.2.2.2.1⟩ (hM H.size) ⟨callB_of As.length C.2.2.2.2.1 hG rfl rfl rfl (C.2.2.2.2.1 _ hini) (C.2.2.2.2.1 _ hlink) hy1 hR, C.2.2.2.2.1 _ hstat⟩ ⟨bw_blind, fun U hU hW => ⟨rfl, by rw [hU], by rw [hU]; exact hPc, va_K.moved hW.alike C.2.2.2.2.2.2.2.2.1, bw_nestW hW C.2.2.2.2.2.2.2.2.2, hDc⟩⟩ rfl rfl hl.1 rfl (lv_room hro) hd hcs) k
theorem bw_callSN (host : String) (As rest : List Value) (wr : va_W) {y : MethodName} {cy : ByteArray} {nLy : Nat} {rety : Option FieldType} {rmy : Room} {wc : va_W} {Q' : Option Value → va_W → Prop} {index : Nat} (hM : bwS l g y cy nLy rety rmy As wc Q') (hst : st = As.reverse ++ rest) (hcode : Cond.code y cy nLy rety ∈ bw_all) (hini : Cond.initialized y.cls ∈ bw_all) (hlink : Cond.methodLinkNest own index y host ∈ bw_nest) (hstat : Cond.static y ∈ bw_all)
    (hy1 : y.cls ≠ "java/lang/invoke/MethodHandle" ∧ y.cls ≠ "java/lang/invoke/VarHandle" ∧ (parseMethodDescriptor y.desc).map (fun d => d.parameters.length) = some As.length) (hR : rmy.frames + 1 ≤ rm.frames ∧ 8 + (nLy + 11) + rmy.locals ≤ rm.locals) (hcs : kc + rmy.cells ≤ rm.cells ∧ ks + rmy.slots ≤ rm.slots) (hperm : (wc ++ wr).Perm ws) (hro : (rest.map fun v => v.category).sum ≤ 8) (hd : decode cc pc = .ok (.invokestatic index, 3))
    (k : ∀ (r : Option Value) (w1 : va_W), Q' r w1 → bwR l g cc nL own nm ret rm PX Zf (pc + 3) lv (r.toList ++ rest) (wr ++ w1) (kc + rmy.cells) (ks + rmy.slots)) : bwR l g cc nL own nm ret rm PX Zf pc lv st ws kc ks := by
  intro p e s m args below meth c A H locs ls C hX hA hP hD hS hl
  subst hst
  have hPc : va_P g.1 vwCl wc H := bw_P (fun q hq => hperm.mem_iff.mp (List.mem_append_left _ hq)) hP
  have hDc : va_D (fun _ => True) wc := by
    have h1 := bw_D1 (bw_Dp hperm hD)
    rw [List.map_append, List.nodup_append] at h1
    exact bw_D2 h1.1 (fun _ _ => trivial)
  have hG : GoodIn bw_all (.code y cy nLy rety :: bw_all) := fun w hw => (List.mem_cons.mp hw).elim (fun e0 => by subst e0; exact bw_good _ hcode) (fun h => bw_good w h)
  refine bw_back C hX hA hP hD hS hl hperm (va_runSN (host := host) (As := As) (rest := rest) (bytes := cy) (maxL := nLy) (ret := rety) ⟨C.1, C.2.1, C.2.2.1, C.2.2.2.1, C.2.2.2.2.1⟩ (hM H.size) ⟨va_cnB As.length C.2.2.2.2.1 hG rfl rfl rfl (C.2.2.2.2.2.2.2.2.2.1 _ hlink) (C.2.2.2.2.1 _ hini) hy1 hR, C.2.2.2.2.1 _ hstat, trivial⟩ ⟨bw_blind, fun U hU hW => ⟨rfl, by rw [hU], by rw [hU]; exact hPc, va_K.moved hW.alike C.2.2.2.2.2.2.2.2.1, bw_nestW hW C.2.2.2.2.2.2.2.2.2, hDc⟩⟩ rfl rfl hl.1 rfl (lv_room hro) hd hcs) k
theorem bw_callI (As rest : List Value) (wr : va_W) {y : MethodName} {cy : ByteArray} {nLy : Nat} {rmy : Room} {wc : va_W} {Q' : Option Value → va_W → Prop} {b : Nat} {index : Nat} (hM : bwS l g y cy nLy none rmy (.ref b :: As) wc Q') (hst : st = As.reverse ++ .ref b :: rest) (hcode : Cond.code y cy nLy none ∈ bw_all) (hini : Cond.initialized y.cls ∈ bw_all) (hlink : Cond.methodLink own index y ∈ bw_all) (hinst : Cond.instanceMethod y ∈ bw_all) (hnm : y.name = "<init>")
    (hy1 : y.cls ≠ "java/lang/invoke/MethodHandle" ∧ y.cls ≠ "java/lang/invoke/VarHandle" ∧ (parseMethodDescriptor y.desc).map (fun d => d.parameters.length) = some As.length) (hR : rmy.frames + 1 ≤ rm.frames ∧ 8 + (nLy + 11) + rmy.locals ≤ rm.locals) (hcs : kc + rmy.cells ≤ rm.cells ∧ ks + rmy.slots ≤ rm.slots) (hperm : (wc ++ wr).Perm ws) (hro : (rest.map fun v => v.category).sum ≤ 8) (hd : decode cc pc = .ok (.invokespecial index, 3))
    (k : ∀ (r : Option Value) (w1 : va_W), Q' r w1 → bwR l g cc nL own nm ret rm PX Zf (pc + 3) lv (r.toList ++ rest) (wr ++ w1) (kc + rmy.cells) (ks + rmy.slots)) : bwR l g cc nL own nm ret rm PX Zf pc lv st ws kc ks := by
  intro p e s m args below meth c A H locs ls C hX hA hP hD hS hl
  subst hst
  have hPc : va_P g.1 vwCl wc H := bw_P (fun q hq => hperm.mem_iff.mp (List.mem_append_left _ hq)) hP
  have hDc : va_D (fun _ => True) wc := by
    have h1 := bw_D1 (bw_Dp hperm hD)
    rw [List.map_append, List.nodup_append] at h1
    exact bw_D2 h1.1 (fun _ _ => trivial)
  have hG : GoodIn bw_all (.code y cy nLy none :: bw_all) := fun w hw => (List.mem_cons.mp hw).elim (fun e0 => by subst e0; exact bw_good _ hcode) (fun h => bw_good w h)
  refine bw_back C hX hA hP hD hS hl hperm (va_runI (As := As) (rest := rest) (bytes := cy) (maxL := nLy) ⟨C.1, C.2.1, C.2.2.1, C.2.2.2.1, C.2.2.2.2.1⟩ (hM H.size) ⟨callB_of As.length C.2.2.2.2.1 hG rfl rfl rfl (C.2.2.2.2.1 _ hini) (C.2.2.2.2.1 _ hlink) hy1 hR, hnm, C.2.2.2.2.1 _ hinst⟩ ⟨bw_blind, fun U hU hW => ⟨rfl, by rw [hU], by rw [hU]; exact hPc, va_K.moved hW.alike C.2.2.2.2.2.2.2.2.1, bw_nestW hW C.2.2.2.2.2.2.2.2.2, hDc⟩⟩ rfl rfl hl.1 rfl (lv_room hro) hd hcs) k
theorem bw_callIN (host : String) (As rest : List Value) (wr : va_W) {y : MethodName} {cy : ByteArray} {nLy : Nat} {rmy : Room} {wc : va_W} {Q' : Option Value → va_W → Prop} {b : Nat} {index : Nat} (hM : bwS l g y cy nLy none rmy (.ref b :: As) wc Q') (hst : st = As.reverse ++ .ref b :: rest) (hcode : Cond.code y cy nLy none ∈ bw_all) (hini : Cond.initialized y.cls ∈ bw_all) (hlink : Cond.methodLinkNest own index y host ∈ bw_nest) (hinst : Cond.instanceMethod y ∈ bw_all) (hnm : y.name = "<init>")
    (hy1 : y.cls ≠ "java/lang/invoke/MethodHandle" ∧ y.cls ≠ "java/lang/invoke/VarHandle" ∧ (parseMethodDescriptor y.desc).map (fun d => d.parameters.length) = some As.length) (hR : rmy.frames + 1 ≤ rm.frames ∧ 8 + (nLy + 11) + rmy.locals ≤ rm.locals) (hcs : kc + rmy.cells ≤ rm.cells ∧ ks + rmy.slots ≤ rm.slots) (hperm : (wc ++ wr).Perm ws) (hro : (rest.map fun v => v.category).sum ≤ 8) (hd : decode cc pc = .ok (.invokespecial index, 3))
    (k : ∀ (r : Option Value) (w1 : va_W), Q' r w1 → bwR l g cc nL own nm ret rm PX Zf (pc + 3) lv (r.toList ++ rest) (wr ++ w1) (kc + rmy.cells) (ks + rmy.slots)) : bwR l g cc nL own nm ret rm PX Zf pc lv st ws kc ks := by
  intro p e s m args below meth c A H locs ls C hX hA hP hD hS hl
  subst hst
  have hPc : va_P g.1 vwCl wc H := bw_P (fun q hq => hperm.mem_iff.mp (List.mem_append_left _ hq)) hP
  have hDc : va_D (fun _ => True) wc := by
    have h1 := bw_D1 (bw_Dp hperm hD)
    rw [List.map_append, List.nodup_append] at h1
    exact bw_D2 h1.1 (fun _ _ => trivial)
  have hG : GoodIn bw_all (.code y cy nLy none :: bw_all) := fun w hw => (List.mem_cons.mp hw).elim (fun e0 => by subst e0; exact bw_good _ hcode) (fun h => bw_good w h)
  refine bw_back C hX hA hP hD hS hl hperm (va_runIN (host := host) (As := As) (rest := rest) (bytes := cy) (maxL := nLy) ⟨C.1, C.2.1, C.2.2.1, C.2.2.2.1, C.2.2.2.2.1⟩ (hM H.size) ⟨va_cnB As.length C.2.2.2.2.1 hG rfl rfl rfl (C.2.2.2.2.2.2.2.2.2.1 _ hlink) (C.2.2.2.2.1 _ hini) hy1 hR, hnm, C.2.2.2.2.1 _ hinst⟩ ⟨bw_blind, fun U hU hW => ⟨rfl, by rw [hU], by rw [hU]; exact hPc, va_K.moved hW.alike C.2.2.2.2.2.2.2.2.1, bw_nestW hW C.2.2.2.2.2.2.2.2.2, hDc⟩⟩ rfl rfl hl.1 rfl (lv_room hro) hd hcs) k
end BWC
theorem bw_chk {P : Prop} [Decidable P] {α : Type} {K : Option α} {r : α} (h : (if P then K else none) = some r) : P ∧ K = some r := by
  by_cases hp : P
  · rw [if_pos hp] at h; exact ⟨hp, h⟩
  · rw [if_neg hp] at h; cases h
end
section
theorem se_X2_characterAt : Cond.selects RX2 yX2_characterAt yX2_characterAt ∈ bw_all := bw_mem 0 (by decide +kernel) (by decide +kernel)
theorem se_X4_canBeGiven : Cond.selects RX4 yX4_canBeGiven yX4_canBeGiven ∈ bw_all := bw_mem 1 (by decide +kernel) (by decide +kernel)
theorem se_X3_findGroups : Cond.selects RX3 yX3_findGroups yX3_findGroups ∈ bw_all := bw_mem 2 (by decide +kernel) (by decide +kernel)
theorem se_X3_addGroup : Cond.selects RX3 yX3_addGroup yX3_addGroup ∈ bw_all := bw_mem 3 (by decide +kernel) (by decide +kernel)
theorem se_X3_leaveOutFlourishes : Cond.selects RX3 yX3_leaveOutFlourishes yX3_leaveOutFlourishes ∈ bw_all := bw_mem 4 (by decide +kernel) (by decide +kernel)
theorem se_X3_keep : Cond.selects RX3 yX3_keep yX3_keep ∈ bw_all := bw_mem 5 (by decide +kernel) (by decide +kernel)
theorem se_X3_findReason : Cond.selects RX3 yX3_findReason yX3_findReason ∈ bw_all := bw_mem 6 (by decide +kernel) (by decide +kernel)
theorem se_X3_isInOrder : Cond.selects RX3 yX3_isInOrder yX3_isInOrder ∈ bw_all := bw_mem 7 (by decide +kernel) (by decide +kernel)
theorem se_X4_lookThroughEyesOf : Cond.selects RX4 yX4_lookThroughEyesOf yX4_lookThroughEyesOf ∈ bw_all := bw_mem 8 (by decide +kernel) (by decide +kernel)
theorem se_X4_sentencesSeenFor : Cond.selects RX4 yX4_sentencesSeenFor yX4_sentencesSeenFor ∈ bw_all := bw_mem 9 (by decide +kernel) (by decide +kernel)
theorem se_X4_favourBehindSeen : Cond.selects RX4 yX4_favourBehindSeen yX4_favourBehindSeen ∈ bw_all := bw_mem 10 (by decide +kernel) (by decide +kernel)
theorem se_X4_gain : Cond.selects RX4 yX4_gain yX4_gain ∈ bw_all := bw_mem 11 (by decide +kernel) (by decide +kernel)
theorem se_X4_courtiersMisled : Cond.selects RX4 yX4_courtiersMisled yX4_courtiersMisled ∈ bw_all := bw_mem 12 (by decide +kernel) (by decide +kernel)
theorem se_X4_sumOfAllFavours : Cond.selects RX4 yX4_sumOfAllFavours yX4_sumOfAllFavours ∈ bw_all := bw_mem 13 (by decide +kernel) (by decide +kernel)
theorem se_X4_favoursOfCourtier : Cond.selects RX4 yX4_favoursOfCourtier yX4_favoursOfCourtier ∈ bw_all := bw_mem 14 (by decide +kernel) (by decide +kernel)
theorem se_X4_favoursForGiver : Cond.selects RX4 yX4_favoursForGiver yX4_favoursForGiver ∈ bw_all := bw_mem 15 (by decide +kernel) (by decide +kernel)
theorem se_X4_sentencesTakenIfGiven : Cond.selects RX4 yX4_sentencesTakenIfGiven yX4_sentencesTakenIfGiven ∈ bw_all := bw_mem 16 (by decide +kernel) (by decide +kernel)
theorem se_X5_changes : Cond.selects RX5 yX5_changes yX5_changes ∈ bw_all := bw_mem 17 (by decide +kernel) (by decide +kernel)
theorem se_X5_adds : Cond.selects RX5 yX5_adds yX5_adds ∈ bw_all := bw_mem 18 (by decide +kernel) (by decide +kernel)
theorem se_X5_readsBow : Cond.selects RX5 yX5_readsBow yX5_readsBow ∈ bw_all := bw_mem 19 (by decide +kernel) (by decide +kernel)
theorem se_X5_isHere : Cond.selects RX5 yX5_isHere yX5_isHere ∈ bw_all := bw_mem 20 (by decide +kernel) (by decide +kernel)
theorem se_X5_takesOne : Cond.selects RX5 yX5_takesOne yX5_takesOne ∈ bw_all := bw_mem 21 (by decide +kernel) (by decide +kernel)
theorem se_X5_hushes : Cond.selects RX5 yX5_hushes yX5_hushes ∈ bw_all := bw_mem 22 (by decide +kernel) (by decide +kernel)
theorem se_X5_canGive : Cond.selects RX5 yX5_canGive yX5_canGive ∈ bw_all := bw_mem 23 (by decide +kernel) (by decide +kernel)
theorem se_X5_sentences : Cond.selects RX5 yX5_sentences yX5_sentences ∈ bw_all := bw_mem 24 (by decide +kernel) (by decide +kernel)
theorem se_X5_parts : Cond.selects RX5 yX5_parts yX5_parts ∈ bw_all := bw_mem 25 (by decide +kernel) (by decide +kernel)
theorem se_X5_signSeen : Cond.selects RX5 yX5_signSeen yX5_signSeen ∈ bw_all := bw_mem 26 (by decide +kernel) (by decide +kernel)
theorem se_X5_endsSeen : Cond.selects RX5 yX5_endsSeen yX5_endsSeen ∈ bw_all := bw_mem 27 (by decide +kernel) (by decide +kernel)
theorem se_X5_reason : Cond.selects RX5 yX5_reason yX5_reason ∈ bw_all := bw_mem 28 (by decide +kernel) (by decide +kernel)
theorem se_X5_isTooLong : Cond.selects RX5 yX5_isTooLong yX5_isTooLong ∈ bw_all := bw_mem 29 (by decide +kernel) (by decide +kernel)
theorem se_X5_isRightThree : Cond.selects RX5 yX5_isRightThree yX5_isRightThree ∈ bw_all := bw_mem 30 (by decide +kernel) (by decide +kernel)
theorem se_X5_gives : Cond.selects RX5 yX5_gives yX5_gives ∈ bw_all := bw_mem 31 (by decide +kernel) (by decide +kernel)
theorem se_X5_takesAll : Cond.selects RX5 yX5_takesAll yX5_takesAll ∈ bw_all := bw_mem 32 (by decide +kernel) (by decide +kernel)
theorem se_X5_takes : Cond.selects RX5 yX5_takes yX5_takes ∈ bw_all := bw_mem 33 (by decide +kernel) (by decide +kernel)
theorem se_X5_flourishes : Cond.selects RX5 yX5_flourishes yX5_flourishes ∈ bw_all := bw_mem 34 (by decide +kernel) (by decide +kernel)
theorem se_X5_othersSeen : Cond.selects RX5 yX5_othersSeen yX5_othersSeen ∈ bw_all := bw_mem 35 (by decide +kernel) (by decide +kernel)
theorem se_X5_seesOthers : Cond.selects RX5 yX5_seesOthers yX5_seesOthers ∈ bw_all := bw_mem 36 (by decide +kernel) (by decide +kernel)
theorem se_X5_favours : Cond.selects RX5 yX5_favours yX5_favours ∈ bw_all := bw_mem 37 (by decide +kernel) (by decide +kernel)
theorem se_X5_wouldTake : Cond.selects RX5 yX5_wouldTake yX5_wouldTake ∈ bw_all := bw_mem 38 (by decide +kernel) (by decide +kernel)
theorem se_X5_keeps : Cond.selects RX5 yX5_keeps yX5_keeps ∈ bw_all := bw_mem 39 (by decide +kernel) (by decide +kernel)
theorem se_X5_comesBack : Cond.selects RX5 yX5_comesBack yX5_comesBack ∈ bw_all := bw_mem 40 (by decide +kernel) (by decide +kernel)
theorem ini_L : Cond.initialized "BowSpeechesLaw" ∈ bw_all := bw_mem 41 (by decide +kernel) (by decide +kernel)
theorem ini_X4 : Cond.initialized "BowSpeeches" ∈ bw_all := bw_mem 42 (by decide +kernel) (by decide +kernel)
theorem ini_X0 : Cond.initialized "BowSpeeches$Court" ∈ bw_all := bw_mem 43 (by decide +kernel) (by decide +kernel)
theorem ini_X2 : Cond.initialized "BowSpeeches$Pad" ∈ bw_all := bw_mem 44 (by decide +kernel) (by decide +kernel)
theorem ini_X1 : Cond.initialized "BowSpeeches$History" ∈ bw_all := bw_mem 45 (by decide +kernel) (by decide +kernel)
theorem ini_X3 : Cond.initialized "BowSpeeches$Seen" ∈ bw_all := bw_mem 46 (by decide +kernel) (by decide +kernel)
theorem ini_X5 : Cond.initialized "BowSpeechesModel" ∈ bw_all := bw_mem 47 (by decide +kernel) (by decide +kernel)
theorem ini_J9 : Cond.initialized "java/lang/Math" ∈ bw_all := bw_mem 48 (by decide +kernel) (by decide +kernel)
theorem cl_L_7 : Cond.classLink "BowSpeechesLaw" 7 "BowSpeeches" ∈ bw_all := bw_mem 49 (by decide +kernel) (by decide +kernel)
theorem is_X4 : Cond.instantiable "BowSpeeches" 7 ∈ bw_all := bw_mem 50 (by decide +kernel) (by decide +kernel)
theorem ml_L_9 : Cond.methodLink "BowSpeechesLaw" 9 yX4_init ∈ bw_all := bw_mem 51 (by decide +kernel) (by decide +kernel)
theorem im_X4_init : Cond.instanceMethod yX4_init ∈ bw_all := bw_mem 52 (by decide +kernel) (by decide +kernel)
theorem co_X4_init : Cond.code yX4_init cX4_init 1 none ∈ bw_all := bw_mem 53 (by decide +kernel) (by decide +kernel)
theorem ml_X4_1 : Cond.methodLink "BowSpeeches" 1 Lib.objectInit ∈ bw_all := bw_mem 54 (by decide +kernel) (by decide +kernel)
theorem im_obj : Cond.instanceMethod Lib.objectInit ∈ bw_all := bw_mem 55 (by decide +kernel) (by decide +kernel)
theorem co_obj : Cond.code Lib.objectInit ⟨#[0xb1]⟩ 1 none ∈ bw_all := bw_mem 56 (by decide +kernel) (by decide +kernel)
theorem cl_X4_7 : Cond.classLink "BowSpeeches" 7 "BowSpeeches$Court" ∈ bw_all := bw_mem 57 (by decide +kernel) (by decide +kernel)
theorem is_X0 : Cond.instantiable "BowSpeeches$Court" 8 ∈ bw_all := bw_mem 58 (by decide +kernel) (by decide +kernel)
theorem mn_X4_9 : Cond.methodLinkNest "BowSpeeches" 9 yX0_init "BowSpeeches" ∈ bw_nest := bw_memN 18 (by decide +kernel) (by decide +kernel)
theorem im_X0_init : Cond.instanceMethod yX0_init ∈ bw_all := bw_mem 60 (by decide +kernel) (by decide +kernel)
theorem co_X0_init : Cond.code yX0_init cX0_init 1 none ∈ bw_all := bw_mem 61 (by decide +kernel) (by decide +kernel)
theorem ml_X0_3 : Cond.methodLink "BowSpeeches$Court" 3 Lib.objectInit ∈ bw_all := bw_mem 62 (by decide +kernel) (by decide +kernel)
theorem fl_X0_9 : Cond.fieldLink "BowSpeeches$Court" 9 "BowSpeeches$Court" "settings" "[I" ∈ bw_all := bw_mem 63 (by decide +kernel) (by decide +kernel)
theorem fl_X4_52 : Cond.fieldLink "BowSpeeches" 52 "BowSpeeches$Court" "settings" "[I" ∈ bw_all := bw_mem 64 (by decide +kernel) (by decide +kernel)
theorem fl_X3_68 : Cond.fieldLink "BowSpeeches$Seen" 68 "BowSpeeches$Court" "settings" "[I" ∈ bw_all := bw_mem 65 (by decide +kernel) (by decide +kernel)
theorem fl_X0_15 : Cond.fieldLink "BowSpeeches$Court" 15 "BowSpeeches$Court" "eyes" "[I" ∈ bw_all := bw_mem 66 (by decide +kernel) (by decide +kernel)
theorem fl_X4_64 : Cond.fieldLink "BowSpeeches" 64 "BowSpeeches$Court" "eyes" "[I" ∈ bw_all := bw_mem 67 (by decide +kernel) (by decide +kernel)
theorem fl_X0_18 : Cond.fieldLink "BowSpeeches$Court" 18 "BowSpeeches$Court" "favours" "[I" ∈ bw_all := bw_mem 68 (by decide +kernel) (by decide +kernel)
theorem fl_X4_111 : Cond.fieldLink "BowSpeeches" 111 "BowSpeeches$Court" "favours" "[I" ∈ bw_all := bw_mem 69 (by decide +kernel) (by decide +kernel)
theorem fl_X0_21 : Cond.fieldLink "BowSpeeches$Court" 21 "BowSpeeches$Court" "numbers" "[I" ∈ bw_all := bw_mem 70 (by decide +kernel) (by decide +kernel)
theorem fl_X0_24 : Cond.fieldLink "BowSpeeches$Court" 24 "BowSpeeches$Court" "pauses" "[I" ∈ bw_all := bw_mem 71 (by decide +kernel) (by decide +kernel)
theorem fl_X3_61 : Cond.fieldLink "BowSpeeches$Seen" 61 "BowSpeeches$Court" "pauses" "[I" ∈ bw_all := bw_mem 72 (by decide +kernel) (by decide +kernel)
theorem fl_X0_27 : Cond.fieldLink "BowSpeeches$Court" 27 "BowSpeeches$Court" "bows" "I" ∈ bw_all := bw_mem 73 (by decide +kernel) (by decide +kernel)
theorem fl_X3_48 : Cond.fieldLink "BowSpeeches$Seen" 48 "BowSpeeches$Court" "bows" "I" ∈ bw_all := bw_mem 74 (by decide +kernel) (by decide +kernel)
theorem fl_X4_67 : Cond.fieldLink "BowSpeeches" 67 "BowSpeeches$Court" "bows" "I" ∈ bw_all := bw_mem 75 (by decide +kernel) (by decide +kernel)
theorem fl_X0_31 : Cond.fieldLink "BowSpeeches$Court" 31 "BowSpeeches$Court" "given" "I" ∈ bw_all := bw_mem 76 (by decide +kernel) (by decide +kernel)
theorem fl_X4_120 : Cond.fieldLink "BowSpeeches" 120 "BowSpeeches$Court" "given" "I" ∈ bw_all := bw_mem 77 (by decide +kernel) (by decide +kernel)
theorem fl_X0_34 : Cond.fieldLink "BowSpeeches$Court" 34 "BowSpeeches$Court" "taken" "I" ∈ bw_all := bw_mem 78 (by decide +kernel) (by decide +kernel)
theorem fl_X4_123 : Cond.fieldLink "BowSpeeches" 123 "BowSpeeches$Court" "taken" "I" ∈ bw_all := bw_mem 79 (by decide +kernel) (by decide +kernel)
theorem ac_int : Cond.arrayClass .int ∈ bw_all := bw_mem 97 (by decide +kernel) (by decide +kernel)
theorem cl_X4_16 : Cond.classLink "BowSpeeches" 16 "BowSpeeches$Pad" ∈ bw_all := bw_mem 98 (by decide +kernel) (by decide +kernel)
theorem is_X2 : Cond.instantiable "BowSpeeches$Pad" 2 ∈ bw_all := bw_mem 99 (by decide +kernel) (by decide +kernel)
theorem mn_X4_18 : Cond.methodLinkNest "BowSpeeches" 18 yX2_init "BowSpeeches" ∈ bw_nest := bw_memN 59 (by decide +kernel) (by decide +kernel)
theorem im_X2_init : Cond.instanceMethod yX2_init ∈ bw_all := bw_mem 101 (by decide +kernel) (by decide +kernel)
theorem co_X2_init : Cond.code yX2_init cX2_init 1 none ∈ bw_all := bw_mem 102 (by decide +kernel) (by decide +kernel)
theorem ml_X2_3 : Cond.methodLink "BowSpeeches$Pad" 3 Lib.objectInit ∈ bw_all := bw_mem 103 (by decide +kernel) (by decide +kernel)
theorem fl_X2_9 : Cond.fieldLink "BowSpeeches$Pad" 9 "BowSpeeches$Pad" "characters" "[C" ∈ bw_all := bw_mem 104 (by decide +kernel) (by decide +kernel)
theorem fl_X2_15 : Cond.fieldLink "BowSpeeches$Pad" 15 "BowSpeeches$Pad" "length" "I" ∈ bw_all := bw_mem 105 (by decide +kernel) (by decide +kernel)
theorem fl_X4_97 : Cond.fieldLink "BowSpeeches" 97 "BowSpeeches$Pad" "length" "I" ∈ bw_all := bw_mem 106 (by decide +kernel) (by decide +kernel)
theorem ac_char : Cond.arrayClass .char ∈ bw_all := bw_mem 112 (by decide +kernel) (by decide +kernel)
theorem cl_X4_23 : Cond.classLink "BowSpeeches" 23 "BowSpeeches$History" ∈ bw_all := bw_mem 113 (by decide +kernel) (by decide +kernel)
theorem is_X1 : Cond.instantiable "BowSpeeches$History" 3 ∈ bw_all := bw_mem 114 (by decide +kernel) (by decide +kernel)
theorem mn_X4_25 : Cond.methodLinkNest "BowSpeeches" 25 yX1_init "BowSpeeches" ∈ bw_nest := bw_memN 74 (by decide +kernel) (by decide +kernel)
theorem im_X1_init : Cond.instanceMethod yX1_init ∈ bw_all := bw_mem 116 (by decide +kernel) (by decide +kernel)
theorem co_X1_init : Cond.code yX1_init cX1_init 1 none ∈ bw_all := bw_mem 117 (by decide +kernel) (by decide +kernel)
theorem ml_X1_3 : Cond.methodLink "BowSpeeches$History" 3 Lib.objectInit ∈ bw_all := bw_mem 118 (by decide +kernel) (by decide +kernel)
theorem cl_X1_9 : Cond.classLink "BowSpeeches$History" 9 "BowSpeeches$Court" ∈ bw_all := bw_mem 119 (by decide +kernel) (by decide +kernel)
theorem fl_X1_11 : Cond.fieldLink "BowSpeeches$History" 11 "BowSpeeches$History" "states" "[LBowSpeeches$Court;" ∈ bw_all := bw_mem 121 (by decide +kernel) (by decide +kernel)
theorem fl_X1_17 : Cond.fieldLink "BowSpeeches$History" 17 "BowSpeeches$History" "next" "I" ∈ bw_all := bw_mem 122 (by decide +kernel) (by decide +kernel)
theorem fl_X1_21 : Cond.fieldLink "BowSpeeches$History" 21 "BowSpeeches$History" "size" "I" ∈ bw_all := bw_mem 123 (by decide +kernel) (by decide +kernel)
theorem fl_X4_161 : Cond.fieldLink "BowSpeeches" 161 "BowSpeeches$History" "size" "I" ∈ bw_all := bw_mem 124 (by decide +kernel) (by decide +kernel)
theorem cl_X4_34 : Cond.classLink "BowSpeeches" 34 "BowSpeeches$Seen" ∈ bw_all := bw_mem 132 (by decide +kernel) (by decide +kernel)
theorem is_X3 : Cond.instantiable "BowSpeeches$Seen" 8 ∈ bw_all := bw_mem 133 (by decide +kernel) (by decide +kernel)
theorem mn_X4_36 : Cond.methodLinkNest "BowSpeeches" 36 yX3_init "BowSpeeches" ∈ bw_nest := bw_memN 93 (by decide +kernel) (by decide +kernel)
theorem im_X3_init : Cond.instanceMethod yX3_init ∈ bw_all := bw_mem 135 (by decide +kernel) (by decide +kernel)
theorem co_X3_init : Cond.code yX3_init cX3_init 1 none ∈ bw_all := bw_mem 136 (by decide +kernel) (by decide +kernel)
theorem ml_X3_3 : Cond.methodLink "BowSpeeches$Seen" 3 Lib.objectInit ∈ bw_all := bw_mem 137 (by decide +kernel) (by decide +kernel)
theorem fl_X3_9 : Cond.fieldLink "BowSpeeches$Seen" 9 "BowSpeeches$Seen" "words" "[I" ∈ bw_all := bw_mem 138 (by decide +kernel) (by decide +kernel)
theorem fl_X4_142 : Cond.fieldLink "BowSpeeches" 142 "BowSpeeches$Seen" "words" "[I" ∈ bw_all := bw_mem 139 (by decide +kernel) (by decide +kernel)
theorem fl_X3_15 : Cond.fieldLink "BowSpeeches$Seen" 15 "BowSpeeches$Seen" "groups" "I" ∈ bw_all := bw_mem 140 (by decide +kernel) (by decide +kernel)
theorem fl_X4_130 : Cond.fieldLink "BowSpeeches" 130 "BowSpeeches$Seen" "groups" "I" ∈ bw_all := bw_mem 141 (by decide +kernel) (by decide +kernel)
theorem fl_X3_19 : Cond.fieldLink "BowSpeeches$Seen" 19 "BowSpeeches$Seen" "left" "[I" ∈ bw_all := bw_mem 142 (by decide +kernel) (by decide +kernel)
theorem fl_X3_22 : Cond.fieldLink "BowSpeeches$Seen" 22 "BowSpeeches$Seen" "kept" "I" ∈ bw_all := bw_mem 143 (by decide +kernel) (by decide +kernel)
theorem fl_X3_25 : Cond.fieldLink "BowSpeeches$Seen" 25 "BowSpeeches$Seen" "flourishes" "I" ∈ bw_all := bw_mem 144 (by decide +kernel) (by decide +kernel)
theorem fl_X4_139 : Cond.fieldLink "BowSpeeches" 139 "BowSpeeches$Seen" "flourishes" "I" ∈ bw_all := bw_mem 145 (by decide +kernel) (by decide +kernel)
theorem fl_X3_28 : Cond.fieldLink "BowSpeeches$Seen" 28 "BowSpeeches$Seen" "longGroups" "I" ∈ bw_all := bw_mem 146 (by decide +kernel) (by decide +kernel)
theorem fl_X3_31 : Cond.fieldLink "BowSpeeches$Seen" 31 "BowSpeeches$Seen" "reason" "I" ∈ bw_all := bw_mem 147 (by decide +kernel) (by decide +kernel)
theorem fl_X4_133 : Cond.fieldLink "BowSpeeches" 133 "BowSpeeches$Seen" "reason" "I" ∈ bw_all := bw_mem 148 (by decide +kernel) (by decide +kernel)
theorem fl_X3_34 : Cond.fieldLink "BowSpeeches$Seen" 34 "BowSpeeches$Seen" "sentences" "I" ∈ bw_all := bw_mem 149 (by decide +kernel) (by decide +kernel)
theorem fl_X4_136 : Cond.fieldLink "BowSpeeches" 136 "BowSpeeches$Seen" "sentences" "I" ∈ bw_all := bw_mem 150 (by decide +kernel) (by decide +kernel)
theorem fl_X4_10 : Cond.fieldLink "BowSpeeches" 10 "BowSpeeches" "court" "LBowSpeeches$Court;" ∈ bw_all := bw_mem 168 (by decide +kernel) (by decide +kernel)
theorem fl_X4_19 : Cond.fieldLink "BowSpeeches" 19 "BowSpeeches" "pad" "LBowSpeeches$Pad;" ∈ bw_all := bw_mem 169 (by decide +kernel) (by decide +kernel)
theorem fl_X4_26 : Cond.fieldLink "BowSpeeches" 26 "BowSpeeches" "history" "LBowSpeeches$History;" ∈ bw_all := bw_mem 170 (by decide +kernel) (by decide +kernel)
theorem fl_X4_30 : Cond.fieldLink "BowSpeeches" 30 "BowSpeeches" "slots" "[LBowSpeeches$Court;" ∈ bw_all := bw_mem 171 (by decide +kernel) (by decide +kernel)
theorem fl_X4_37 : Cond.fieldLink "BowSpeeches" 37 "BowSpeeches" "seen" "LBowSpeeches$Seen;" ∈ bw_all := bw_mem 172 (by decide +kernel) (by decide +kernel)
theorem fl_X4_41 : Cond.fieldLink "BowSpeeches" 41 "BowSpeeches" "plain" "LBowSpeeches$Seen;" ∈ bw_all := bw_mem 173 (by decide +kernel) (by decide +kernel)
theorem fl_X4_44 : Cond.fieldLink "BowSpeeches" 44 "BowSpeeches" "trial" "LBowSpeeches$Court;" ∈ bw_all := bw_mem 174 (by decide +kernel) (by decide +kernel)
theorem ml_L_13 : Cond.methodLink "BowSpeechesLaw" 13 yX4_set ∈ bw_all := bw_mem 190 (by decide +kernel) (by decide +kernel)
theorem im_X4_set : Cond.instanceMethod yX4_set ∈ bw_all := bw_mem 191 (by decide +kernel) (by decide +kernel)
theorem se_X4_set : Cond.selects "BowSpeeches" yX4_set yX4_set ∈ bw_all := bw_mem 192 (by decide +kernel) (by decide +kernel)
theorem co_X4_set : Cond.code yX4_set cX4_set 5 (some .int) ∈ bw_all := bw_mem 193 (by decide +kernel) (by decide +kernel)
theorem ct_X4_47 : Cond.constant "BowSpeeches" 47 (-1000002) ∈ bw_all := bw_mem 194 (by decide +kernel) (by decide +kernel)
theorem ml_X4_48 : Cond.methodLink "BowSpeeches" 48 yX1_remember ∈ bw_all := bw_mem 195 (by decide +kernel) (by decide +kernel)
theorem im_X1_remember : Cond.instanceMethod yX1_remember ∈ bw_all := bw_mem 196 (by decide +kernel) (by decide +kernel)
theorem se_X1_remember : Cond.selects "BowSpeeches$History" yX1_remember yX1_remember ∈ bw_all := bw_mem 197 (by decide +kernel) (by decide +kernel)
theorem co_X1_remember : Cond.code yX1_remember cX1_remember 2 none ∈ bw_all := bw_mem 198 (by decide +kernel) (by decide +kernel)
theorem mn_X1_24 : Cond.methodLinkNest "BowSpeeches$History" 24 yX4_copyOf "BowSpeeches" ∈ bw_nest := bw_memN 158 (by decide +kernel) (by decide +kernel)
theorem st_X4_copyOf : Cond.static yX4_copyOf ∈ bw_all := bw_mem 200 (by decide +kernel) (by decide +kernel)
theorem co_X4_copyOf : Cond.code yX4_copyOf cX4_copyOf 3 (some (.object "BowSpeeches$Court")) ∈ bw_all := bw_mem 201 (by decide +kernel) (by decide +kernel)
theorem ml_X4_173 : Cond.methodLink "BowSpeeches" 173 yX0_become ∈ bw_all := bw_mem 202 (by decide +kernel) (by decide +kernel)
theorem im_X0_become : Cond.instanceMethod yX0_become ∈ bw_all := bw_mem 203 (by decide +kernel) (by decide +kernel)
theorem se_X0_become : Cond.selects "BowSpeeches$Court" yX0_become yX0_become ∈ bw_all := bw_mem 204 (by decide +kernel) (by decide +kernel)
theorem co_X0_become : Cond.code yX0_become cX0_become 2 none ∈ bw_all := bw_mem 205 (by decide +kernel) (by decide +kernel)
theorem mn_X0_37 : Cond.methodLinkNest "BowSpeeches$Court" 37 yX4_copyRow "BowSpeeches" ∈ bw_nest := bw_memN 165 (by decide +kernel) (by decide +kernel)
theorem st_X4_copyRow : Cond.static yX4_copyRow ∈ bw_all := bw_mem 207 (by decide +kernel) (by decide +kernel)
theorem co_X4_copyRow : Cond.code yX4_copyRow cX4_copyRow 3 none ∈ bw_all := bw_mem 208 (by decide +kernel) (by decide +kernel)
theorem ml_X1_28 : Cond.methodLink "BowSpeeches$History" 28 Lib.Math.min.name ∈ bw_all := bw_mem 209 (by decide +kernel) (by decide +kernel)
theorem st_J9_min_7cf53 : Cond.static Lib.Math.min.name ∈ bw_all := bw_mem 210 (by decide +kernel) (by decide +kernel)
theorem co_Math_min : Cond.code Lib.Math.min.name Lib.Math.min.code 2 (some .int) ∈ bw_all := bw_mem 211 (by decide +kernel) (by decide +kernel)
theorem ml_L_18 : Cond.methodLink "BowSpeechesLaw" 18 yX4_eyes ∈ bw_all := bw_mem 212 (by decide +kernel) (by decide +kernel)
theorem im_X4_eyes : Cond.instanceMethod yX4_eyes ∈ bw_all := bw_mem 213 (by decide +kernel) (by decide +kernel)
theorem se_X4_eyes : Cond.selects "BowSpeeches" yX4_eyes yX4_eyes ∈ bw_all := bw_mem 214 (by decide +kernel) (by decide +kernel)
theorem co_X4_eyes : Cond.code yX4_eyes cX4_eyes 4 (some .int) ∈ bw_all := bw_mem 215 (by decide +kernel) (by decide +kernel)
theorem ml_X4_56 : Cond.methodLink "BowSpeeches" 56 yX4_isCourtier ∈ bw_all := bw_mem 216 (by decide +kernel) (by decide +kernel)
theorem st_X4_isCourtier : Cond.static yX4_isCourtier ∈ bw_all := bw_mem 217 (by decide +kernel) (by decide +kernel)
theorem co_X4_isCourtier : Cond.code yX4_isCourtier cX4_isCourtier 1 (some .boolean) ∈ bw_all := bw_mem 218 (by decide +kernel) (by decide +kernel)
theorem ct_X4_60 : Cond.constant "BowSpeeches" 60 (-1000001) ∈ bw_all := bw_mem 219 (by decide +kernel) (by decide +kernel)
theorem ml_X4_61 : Cond.methodLink "BowSpeeches" 61 yX4_areEyes ∈ bw_all := bw_mem 220 (by decide +kernel) (by decide +kernel)
theorem st_X4_areEyes : Cond.static yX4_areEyes ∈ bw_all := bw_mem 221 (by decide +kernel) (by decide +kernel)
theorem co_X4_areEyes : Cond.code yX4_areEyes cX4_areEyes 1 (some .boolean) ∈ bw_all := bw_mem 222 (by decide +kernel) (by decide +kernel)
theorem ml_L_22 : Cond.methodLink "BowSpeechesLaw" 22 yX4_bow ∈ bw_all := bw_mem 223 (by decide +kernel) (by decide +kernel)
theorem im_X4_bow : Cond.instanceMethod yX4_bow ∈ bw_all := bw_mem 224 (by decide +kernel) (by decide +kernel)
theorem se_X4_bow : Cond.selects "BowSpeeches" yX4_bow yX4_bow ∈ bw_all := bw_mem 225 (by decide +kernel) (by decide +kernel)
theorem co_X4_bow : Cond.code yX4_bow cX4_bow 4 (some .int) ∈ bw_all := bw_mem 226 (by decide +kernel) (by decide +kernel)
theorem ct_X4_71 : Cond.constant "BowSpeeches" 71 (-1000004) ∈ bw_all := bw_mem 227 (by decide +kernel) (by decide +kernel)
theorem ml_X4_72 : Cond.methodLink "BowSpeeches" 72 yX4_bowNumber ∈ bw_all := bw_mem 228 (by decide +kernel) (by decide +kernel)
theorem st_X4_bowNumber : Cond.static yX4_bowNumber ∈ bw_all := bw_mem 229 (by decide +kernel) (by decide +kernel)
theorem co_X4_bowNumber : Cond.code yX4_bowNumber cX4_bowNumber 2 (some .int) ∈ bw_all := bw_mem 230 (by decide +kernel) (by decide +kernel)
theorem ml_X4_76 : Cond.methodLink "BowSpeeches" 76 yX0_addBow ∈ bw_all := bw_mem 231 (by decide +kernel) (by decide +kernel)
theorem im_X0_addBow : Cond.instanceMethod yX0_addBow ∈ bw_all := bw_mem 232 (by decide +kernel) (by decide +kernel)
theorem se_X0_addBow : Cond.selects "BowSpeeches$Court" yX0_addBow yX0_addBow ∈ bw_all := bw_mem 233 (by decide +kernel) (by decide +kernel)
theorem co_X0_addBow : Cond.code yX0_addBow cX0_addBow 3 none ∈ bw_all := bw_mem 234 (by decide +kernel) (by decide +kernel)
theorem ml_L_27 : Cond.methodLink "BowSpeechesLaw" 27 yX4_takeBack ∈ bw_all := bw_mem 235 (by decide +kernel) (by decide +kernel)
theorem im_X4_takeBack : Cond.instanceMethod yX4_takeBack ∈ bw_all := bw_mem 236 (by decide +kernel) (by decide +kernel)
theorem se_X4_takeBack : Cond.selects "BowSpeeches" yX4_takeBack yX4_takeBack ∈ bw_all := bw_mem 237 (by decide +kernel) (by decide +kernel)
theorem co_X4_takeBack : Cond.code yX4_takeBack cX4_takeBack 1 (some .int) ∈ bw_all := bw_mem 238 (by decide +kernel) (by decide +kernel)
theorem ct_X4_80 : Cond.constant "BowSpeeches" 80 (-1000005) ∈ bw_all := bw_mem 239 (by decide +kernel) (by decide +kernel)
theorem ml_X4_81 : Cond.methodLink "BowSpeeches" 81 yX0_bowAt ∈ bw_all := bw_mem 240 (by decide +kernel) (by decide +kernel)
theorem im_X0_bowAt : Cond.instanceMethod yX0_bowAt ∈ bw_all := bw_mem 241 (by decide +kernel) (by decide +kernel)
theorem se_X0_bowAt : Cond.selects "BowSpeeches$Court" yX0_bowAt yX0_bowAt ∈ bw_all := bw_mem 242 (by decide +kernel) (by decide +kernel)
theorem co_X0_bowAt : Cond.code yX0_bowAt cX0_bowAt 2 (some .int) ∈ bw_all := bw_mem 243 (by decide +kernel) (by decide +kernel)
theorem mn_X0_41 : Cond.methodLinkNest "BowSpeeches$Court" 41 yX4_at "BowSpeeches" ∈ bw_nest := bw_memN 203 (by decide +kernel) (by decide +kernel)
theorem st_X4_at : Cond.static yX4_at ∈ bw_all := bw_mem 245 (by decide +kernel) (by decide +kernel)
theorem co_X4_at : Cond.code yX4_at cX4_at 2 (some .int) ∈ bw_all := bw_mem 246 (by decide +kernel) (by decide +kernel)
theorem ml_L_32 : Cond.methodLink "BowSpeechesLaw" 32 yX4_read ∈ bw_all := bw_mem 247 (by decide +kernel) (by decide +kernel)
theorem im_X4_read : Cond.instanceMethod yX4_read ∈ bw_all := bw_mem 248 (by decide +kernel) (by decide +kernel)
theorem se_X4_read : Cond.selects "BowSpeeches" yX4_read yX4_read ∈ bw_all := bw_mem 249 (by decide +kernel) (by decide +kernel)
theorem co_X4_read : Cond.code yX4_read cX4_read 1 (some .int) ∈ bw_all := bw_mem 250 (by decide +kernel) (by decide +kernel)
theorem ml_X4_85 : Cond.methodLink "BowSpeeches" 85 yX2_firstFault ∈ bw_all := bw_mem 251 (by decide +kernel) (by decide +kernel)
theorem im_X2_firstFault : Cond.instanceMethod yX2_firstFault ∈ bw_all := bw_mem 252 (by decide +kernel) (by decide +kernel)
theorem se_X2_firstFault : Cond.selects "BowSpeeches$Pad" yX2_firstFault yX2_firstFault ∈ bw_all := bw_mem 253 (by decide +kernel) (by decide +kernel)
theorem co_X2_firstFault : Cond.code yX2_firstFault cX2_firstFault 3 (some .int) ∈ bw_all := bw_mem 254 (by decide +kernel) (by decide +kernel)
theorem ml_X2_19 : Cond.methodLink "BowSpeeches$Pad" 19 yX2_characterAt ∈ bw_all := bw_mem 255 (by decide +kernel) (by decide +kernel)
theorem im_X2_characterAt : Cond.instanceMethod yX2_characterAt ∈ bw_all := bw_mem 257 (by decide +kernel) (by decide +kernel)
theorem co_X2_characterAt : Cond.code yX2_characterAt cX2_characterAt 2 (some .char) ∈ bw_all := bw_mem 258 (by decide +kernel) (by decide +kernel)
theorem ml_X2_23 : Cond.methodLink "BowSpeeches$Pad" 23 yX2_placeBehind ∈ bw_all := bw_mem 259 (by decide +kernel) (by decide +kernel)
theorem st_X2_placeBehind : Cond.static yX2_placeBehind ∈ bw_all := bw_mem 260 (by decide +kernel) (by decide +kernel)
theorem co_X2_placeBehind : Cond.code yX2_placeBehind cX2_placeBehind 3 (some .int) ∈ bw_all := bw_mem 261 (by decide +kernel) (by decide +kernel)
theorem ct_X2_27 : Cond.constant "BowSpeeches$Pad" 27 (-1000006) ∈ bw_all := bw_mem 262 (by decide +kernel) (by decide +kernel)
theorem ct_X4_89 : Cond.constant "BowSpeeches" 89 (-1000006) ∈ bw_all := bw_mem 263 (by decide +kernel) (by decide +kernel)
theorem ct_X4_90 : Cond.constant "BowSpeeches" 90 (-1000003) ∈ bw_all := bw_mem 264 (by decide +kernel) (by decide +kernel)
theorem ml_X4_91 : Cond.methodLink "BowSpeeches" 91 yX2_bowsInText ∈ bw_all := bw_mem 265 (by decide +kernel) (by decide +kernel)
theorem im_X2_bowsInText : Cond.instanceMethod yX2_bowsInText ∈ bw_all := bw_mem 266 (by decide +kernel) (by decide +kernel)
theorem se_X2_bowsInText : Cond.selects "BowSpeeches$Pad" yX2_bowsInText yX2_bowsInText ∈ bw_all := bw_mem 267 (by decide +kernel) (by decide +kernel)
theorem co_X2_bowsInText : Cond.code yX2_bowsInText cX2_bowsInText 3 (some .int) ∈ bw_all := bw_mem 268 (by decide +kernel) (by decide +kernel)
theorem ml_X4_94 : Cond.methodLink "BowSpeeches" 94 yX2_addBowsTo ∈ bw_all := bw_mem 269 (by decide +kernel) (by decide +kernel)
theorem im_X2_addBowsTo : Cond.instanceMethod yX2_addBowsTo ∈ bw_all := bw_mem 270 (by decide +kernel) (by decide +kernel)
theorem se_X2_addBowsTo : Cond.selects "BowSpeeches$Pad" yX2_addBowsTo yX2_addBowsTo ∈ bw_all := bw_mem 271 (by decide +kernel) (by decide +kernel)
theorem co_X2_addBowsTo : Cond.code yX2_addBowsTo cX2_addBowsTo 6 none ∈ bw_all := bw_mem 272 (by decide +kernel) (by decide +kernel)
theorem mn_X2_28 : Cond.methodLinkNest "BowSpeeches$Pad" 28 yX4_bowNumber "BowSpeeches" ∈ bw_nest := bw_memN 232 (by decide +kernel) (by decide +kernel)
theorem ml_X2_32 : Cond.methodLink "BowSpeeches$Pad" 32 yX0_addBow ∈ bw_all := bw_mem 274 (by decide +kernel) (by decide +kernel)
theorem ml_L_36 : Cond.methodLink "BowSpeechesLaw" 36 yX4_hush ∈ bw_all := bw_mem 275 (by decide +kernel) (by decide +kernel)
theorem im_X4_hush : Cond.instanceMethod yX4_hush ∈ bw_all := bw_mem 276 (by decide +kernel) (by decide +kernel)
theorem se_X4_hush : Cond.selects "BowSpeeches" yX4_hush yX4_hush ∈ bw_all := bw_mem 277 (by decide +kernel) (by decide +kernel)
theorem co_X4_hush : Cond.code yX4_hush cX4_hush 2 (some .int) ∈ bw_all := bw_mem 278 (by decide +kernel) (by decide +kernel)
theorem ml_L_40 : Cond.methodLink "BowSpeechesLaw" 40 yX4_give ∈ bw_all := bw_mem 279 (by decide +kernel) (by decide +kernel)
theorem im_X4_give : Cond.instanceMethod yX4_give ∈ bw_all := bw_mem 280 (by decide +kernel) (by decide +kernel)
theorem se_X4_give : Cond.selects "BowSpeeches" yX4_give yX4_give ∈ bw_all := bw_mem 281 (by decide +kernel) (by decide +kernel)
theorem co_X4_give : Cond.code yX4_give cX4_give 4 (some .int) ∈ bw_all := bw_mem 282 (by decide +kernel) (by decide +kernel)
theorem ml_X4_100 : Cond.methodLink "BowSpeeches" 100 yX4_canBeGiven ∈ bw_all := bw_mem 283 (by decide +kernel) (by decide +kernel)
theorem im_X4_canBeGiven : Cond.instanceMethod yX4_canBeGiven ∈ bw_all := bw_mem 285 (by decide +kernel) (by decide +kernel)
theorem co_X4_canBeGiven : Cond.code yX4_canBeGiven cX4_canBeGiven 1 (some .boolean) ∈ bw_all := bw_mem 286 (by decide +kernel) (by decide +kernel)
theorem ml_X4_126 : Cond.methodLink "BowSpeeches" 126 yX3_look ∈ bw_all := bw_mem 287 (by decide +kernel) (by decide +kernel)
theorem im_X3_look : Cond.instanceMethod yX3_look ∈ bw_all := bw_mem 288 (by decide +kernel) (by decide +kernel)
theorem se_X3_look : Cond.selects "BowSpeeches$Seen" yX3_look yX3_look ∈ bw_all := bw_mem 289 (by decide +kernel) (by decide +kernel)
theorem co_X3_look : Cond.code yX3_look cX3_look 3 none ∈ bw_all := bw_mem 290 (by decide +kernel) (by decide +kernel)
theorem ml_X3_37 : Cond.methodLink "BowSpeeches$Seen" 37 yX3_findGroups ∈ bw_all := bw_mem 291 (by decide +kernel) (by decide +kernel)
theorem im_X3_findGroups : Cond.instanceMethod yX3_findGroups ∈ bw_all := bw_mem 293 (by decide +kernel) (by decide +kernel)
theorem co_X3_findGroups : Cond.code yX3_findGroups cX3_findGroups 7 none ∈ bw_all := bw_mem 294 (by decide +kernel) (by decide +kernel)
theorem ml_X3_53 : Cond.methodLink "BowSpeeches$Seen" 53 yX0_bowAt ∈ bw_all := bw_mem 295 (by decide +kernel) (by decide +kernel)
theorem ml_X3_57 : Cond.methodLink "BowSpeeches$Seen" 57 yX3_seenNumber ∈ bw_all := bw_mem 296 (by decide +kernel) (by decide +kernel)
theorem st_X3_seenNumber : Cond.static yX3_seenNumber ∈ bw_all := bw_mem 297 (by decide +kernel) (by decide +kernel)
theorem co_X3_seenNumber : Cond.code yX3_seenNumber cX3_seenNumber 3 (some .int) ∈ bw_all := bw_mem 298 (by decide +kernel) (by decide +kernel)
theorem mn_X3_82 : Cond.methodLinkNest "BowSpeeches$Seen" 82 yX4_bowNumber "BowSpeeches" ∈ bw_nest := bw_memN 258 (by decide +kernel) (by decide +kernel)
theorem mn_X3_64 : Cond.methodLinkNest "BowSpeeches$Seen" 64 yX4_at "BowSpeeches" ∈ bw_nest := bw_memN 259 (by decide +kernel) (by decide +kernel)
theorem ml_X3_71 : Cond.methodLink "BowSpeeches$Seen" 71 yX3_seenAsBreak ∈ bw_all := bw_mem 301 (by decide +kernel) (by decide +kernel)
theorem st_X3_seenAsBreak : Cond.static yX3_seenAsBreak ∈ bw_all := bw_mem 302 (by decide +kernel) (by decide +kernel)
theorem co_X3_seenAsBreak : Cond.code yX3_seenAsBreak cX3_seenAsBreak 3 (some .boolean) ∈ bw_all := bw_mem 303 (by decide +kernel) (by decide +kernel)
theorem ml_X3_75 : Cond.methodLink "BowSpeeches$Seen" 75 yX3_wordOf ∈ bw_all := bw_mem 304 (by decide +kernel) (by decide +kernel)
theorem st_X3_wordOf : Cond.static yX3_wordOf ∈ bw_all := bw_mem 305 (by decide +kernel) (by decide +kernel)
theorem co_X3_wordOf : Cond.code yX3_wordOf cX3_wordOf 2 (some .int) ∈ bw_all := bw_mem 306 (by decide +kernel) (by decide +kernel)
theorem ct_X3_85 : Cond.constant "BowSpeeches$Seen" 85 (-1000006) ∈ bw_all := bw_mem 307 (by decide +kernel) (by decide +kernel)
theorem ml_X3_78 : Cond.methodLink "BowSpeeches$Seen" 78 yX3_addGroup ∈ bw_all := bw_mem 308 (by decide +kernel) (by decide +kernel)
theorem im_X3_addGroup : Cond.instanceMethod yX3_addGroup ∈ bw_all := bw_mem 310 (by decide +kernel) (by decide +kernel)
theorem co_X3_addGroup : Cond.code yX3_addGroup cX3_addGroup 2 none ∈ bw_all := bw_mem 311 (by decide +kernel) (by decide +kernel)
theorem ml_X3_41 : Cond.methodLink "BowSpeeches$Seen" 41 yX3_leaveOutFlourishes ∈ bw_all := bw_mem 312 (by decide +kernel) (by decide +kernel)
theorem im_X3_leaveOutFlourishes : Cond.instanceMethod yX3_leaveOutFlourishes ∈ bw_all := bw_mem 314 (by decide +kernel) (by decide +kernel)
theorem co_X3_leaveOutFlourishes : Cond.code yX3_leaveOutFlourishes cX3_leaveOutFlourishes 3 none ∈ bw_all := bw_mem 315 (by decide +kernel) (by decide +kernel)
theorem mn_X3_86 : Cond.methodLinkNest "BowSpeeches$Seen" 86 yX4_isFlourish "BowSpeeches" ∈ bw_nest := bw_memN 275 (by decide +kernel) (by decide +kernel)
theorem st_X4_isFlourish : Cond.static yX4_isFlourish ∈ bw_all := bw_mem 317 (by decide +kernel) (by decide +kernel)
theorem co_X4_isFlourish : Cond.code yX4_isFlourish cX4_isFlourish 1 (some .boolean) ∈ bw_all := bw_mem 318 (by decide +kernel) (by decide +kernel)
theorem ml_X3_90 : Cond.methodLink "BowSpeeches$Seen" 90 yX3_keep ∈ bw_all := bw_mem 319 (by decide +kernel) (by decide +kernel)
theorem im_X3_keep : Cond.instanceMethod yX3_keep ∈ bw_all := bw_mem 321 (by decide +kernel) (by decide +kernel)
theorem co_X3_keep : Cond.code yX3_keep cX3_keep 2 none ∈ bw_all := bw_mem 322 (by decide +kernel) (by decide +kernel)
theorem ml_X3_44 : Cond.methodLink "BowSpeeches$Seen" 44 yX3_findReason ∈ bw_all := bw_mem 323 (by decide +kernel) (by decide +kernel)
theorem im_X3_findReason : Cond.instanceMethod yX3_findReason ∈ bw_all := bw_mem 325 (by decide +kernel) (by decide +kernel)
theorem co_X3_findReason : Cond.code yX3_findReason cX3_findReason 3 (some .int) ∈ bw_all := bw_mem 326 (by decide +kernel) (by decide +kernel)
theorem ml_X3_93 : Cond.methodLink "BowSpeeches$Seen" 93 yX3_isInOrder ∈ bw_all := bw_mem 327 (by decide +kernel) (by decide +kernel)
theorem im_X3_isInOrder : Cond.instanceMethod yX3_isInOrder ∈ bw_all := bw_mem 329 (by decide +kernel) (by decide +kernel)
theorem co_X3_isInOrder : Cond.code yX3_isInOrder cX3_isInOrder 2 (some .boolean) ∈ bw_all := bw_mem 330 (by decide +kernel) (by decide +kernel)
theorem ml_X3_96 : Cond.methodLink "BowSpeeches$Seen" 96 yX3_part ∈ bw_all := bw_mem 331 (by decide +kernel) (by decide +kernel)
theorem im_X3_part : Cond.instanceMethod yX3_part ∈ bw_all := bw_mem 332 (by decide +kernel) (by decide +kernel)
theorem se_X3_part : Cond.selects "BowSpeeches$Seen" yX3_part yX3_part ∈ bw_all := bw_mem 333 (by decide +kernel) (by decide +kernel)
theorem co_X3_part : Cond.code yX3_part cX3_part 4 (some .int) ∈ bw_all := bw_mem 334 (by decide +kernel) (by decide +kernel)
theorem mn_X3_99 : Cond.methodLinkNest "BowSpeeches$Seen" 99 yX4_isNameOfCourtier "BowSpeeches" ∈ bw_nest := bw_memN 294 (by decide +kernel) (by decide +kernel)
theorem st_X4_isNameOfCourtier : Cond.static yX4_isNameOfCourtier ∈ bw_all := bw_mem 336 (by decide +kernel) (by decide +kernel)
theorem co_X4_isNameOfCourtier : Cond.code yX4_isNameOfCourtier cX4_isNameOfCourtier 1 (some .boolean) ∈ bw_all := bw_mem 337 (by decide +kernel) (by decide +kernel)
theorem mn_X3_102 : Cond.methodLinkNest "BowSpeeches$Seen" 102 yX4_isDeed "BowSpeeches" ∈ bw_nest := bw_memN 297 (by decide +kernel) (by decide +kernel)
theorem st_X4_isDeed : Cond.static yX4_isDeed ∈ bw_all := bw_mem 339 (by decide +kernel) (by decide +kernel)
theorem co_X4_isDeed : Cond.code yX4_isDeed cX4_isDeed 1 (some .boolean) ∈ bw_all := bw_mem 340 (by decide +kernel) (by decide +kernel)
theorem ml_X4_104 : Cond.methodLink "BowSpeeches" 104 yX4_lookThroughEyesOf ∈ bw_all := bw_mem 341 (by decide +kernel) (by decide +kernel)
theorem im_X4_lookThroughEyesOf : Cond.instanceMethod yX4_lookThroughEyesOf ∈ bw_all := bw_mem 343 (by decide +kernel) (by decide +kernel)
theorem co_X4_lookThroughEyesOf : Cond.code yX4_lookThroughEyesOf cX4_lookThroughEyesOf 2 none ∈ bw_all := bw_mem 344 (by decide +kernel) (by decide +kernel)
theorem ml_X4_145 : Cond.methodLink "BowSpeeches" 145 yX4_at ∈ bw_all := bw_mem 345 (by decide +kernel) (by decide +kernel)
theorem ml_X4_108 : Cond.methodLink "BowSpeeches" 108 yX4_sentencesSeenFor ∈ bw_all := bw_mem 346 (by decide +kernel) (by decide +kernel)
theorem im_X4_sentencesSeenFor : Cond.instanceMethod yX4_sentencesSeenFor ∈ bw_all := bw_mem 348 (by decide +kernel) (by decide +kernel)
theorem co_X4_sentencesSeenFor : Cond.code yX4_sentencesSeenFor cX4_sentencesSeenFor 4 (some .int) ∈ bw_all := bw_mem 349 (by decide +kernel) (by decide +kernel)
theorem ml_X4_152 : Cond.methodLink "BowSpeeches" 152 yX3_part ∈ bw_all := bw_mem 350 (by decide +kernel) (by decide +kernel)
theorem ml_X4_114 : Cond.methodLink "BowSpeeches" 114 yX4_favourIndex ∈ bw_all := bw_mem 351 (by decide +kernel) (by decide +kernel)
theorem st_X4_favourIndex : Cond.static yX4_favourIndex ∈ bw_all := bw_mem 352 (by decide +kernel) (by decide +kernel)
theorem co_X4_favourIndex : Cond.code yX4_favourIndex cX4_favourIndex 2 (some .int) ∈ bw_all := bw_mem 353 (by decide +kernel) (by decide +kernel)
theorem ml_X4_117 : Cond.methodLink "BowSpeeches" 117 yX4_favourBehindSeen ∈ bw_all := bw_mem 354 (by decide +kernel) (by decide +kernel)
theorem im_X4_favourBehindSeen : Cond.instanceMethod yX4_favourBehindSeen ∈ bw_all := bw_mem 356 (by decide +kernel) (by decide +kernel)
theorem co_X4_favourBehindSeen : Cond.code yX4_favourBehindSeen cX4_favourBehindSeen 5 (some .int) ∈ bw_all := bw_mem 357 (by decide +kernel) (by decide +kernel)
theorem ml_X4_199 : Cond.methodLink "BowSpeeches" 199 yX4_gain ∈ bw_all := bw_mem 358 (by decide +kernel) (by decide +kernel)
theorem im_X4_gain : Cond.instanceMethod yX4_gain ∈ bw_all := bw_mem 360 (by decide +kernel) (by decide +kernel)
theorem co_X4_gain : Cond.code yX4_gain cX4_gain 4 (some .int) ∈ bw_all := bw_mem 361 (by decide +kernel) (by decide +kernel)
theorem ml_X4_149 : Cond.methodLink "BowSpeeches" 149 yX3_isKind ∈ bw_all := bw_mem 362 (by decide +kernel) (by decide +kernel)
theorem im_X3_isKind : Cond.instanceMethod yX3_isKind ∈ bw_all := bw_mem 363 (by decide +kernel) (by decide +kernel)
theorem se_X3_isKind : Cond.selects "BowSpeeches$Seen" yX3_isKind yX3_isKind ∈ bw_all := bw_mem 364 (by decide +kernel) (by decide +kernel)
theorem co_X3_isKind : Cond.code yX3_isKind cX3_isKind 2 (some .boolean) ∈ bw_all := bw_mem 365 (by decide +kernel) (by decide +kernel)
theorem ml_X4_202 : Cond.methodLink "BowSpeeches" 202 Lib.Math.min.name ∈ bw_all := bw_mem 366 (by decide +kernel) (by decide +kernel)
theorem ml_X4_207 : Cond.methodLink "BowSpeeches" 207 Lib.Math.max.name ∈ bw_all := bw_mem 367 (by decide +kernel) (by decide +kernel)
theorem st_J9_max_7cf53 : Cond.static Lib.Math.max.name ∈ bw_all := bw_mem 368 (by decide +kernel) (by decide +kernel)
theorem co_Math_max : Cond.code Lib.Math.max.name Lib.Math.max.code 2 (some .int) ∈ bw_all := bw_mem 369 (by decide +kernel) (by decide +kernel)
theorem ml_L_44 : Cond.methodLink "BowSpeechesLaw" 44 yX4_speech ∈ bw_all := bw_mem 370 (by decide +kernel) (by decide +kernel)
theorem im_X4_speech : Cond.instanceMethod yX4_speech ∈ bw_all := bw_mem 371 (by decide +kernel) (by decide +kernel)
theorem se_X4_speech : Cond.selects "BowSpeeches" yX4_speech yX4_speech ∈ bw_all := bw_mem 372 (by decide +kernel) (by decide +kernel)
theorem co_X4_speech : Cond.code yX4_speech cX4_speech 3 (some .int) ∈ bw_all := bw_mem 373 (by decide +kernel) (by decide +kernel)
theorem ml_L_48 : Cond.methodLink "BowSpeechesLaw" 48 yX4_word ∈ bw_all := bw_mem 374 (by decide +kernel) (by decide +kernel)
theorem im_X4_word : Cond.instanceMethod yX4_word ∈ bw_all := bw_mem 375 (by decide +kernel) (by decide +kernel)
theorem se_X4_word : Cond.selects "BowSpeeches" yX4_word yX4_word ∈ bw_all := bw_mem 376 (by decide +kernel) (by decide +kernel)
theorem co_X4_word : Cond.code yX4_word cX4_word 3 (some .int) ∈ bw_all := bw_mem 377 (by decide +kernel) (by decide +kernel)
theorem ml_L_52 : Cond.methodLink "BowSpeechesLaw" 52 yX4_sentence ∈ bw_all := bw_mem 378 (by decide +kernel) (by decide +kernel)
theorem im_X4_sentence : Cond.instanceMethod yX4_sentence ∈ bw_all := bw_mem 379 (by decide +kernel) (by decide +kernel)
theorem se_X4_sentence : Cond.selects "BowSpeeches" yX4_sentence yX4_sentence ∈ bw_all := bw_mem 380 (by decide +kernel) (by decide +kernel)
theorem co_X4_sentence : Cond.code yX4_sentence cX4_sentence 4 (some .int) ∈ bw_all := bw_mem 381 (by decide +kernel) (by decide +kernel)
theorem ml_L_56 : Cond.methodLink "BowSpeechesLaw" 56 yX4_favour ∈ bw_all := bw_mem 382 (by decide +kernel) (by decide +kernel)
theorem im_X4_favour : Cond.instanceMethod yX4_favour ∈ bw_all := bw_mem 383 (by decide +kernel) (by decide +kernel)
theorem se_X4_favour : Cond.selects "BowSpeeches" yX4_favour yX4_favour ∈ bw_all := bw_mem 384 (by decide +kernel) (by decide +kernel)
theorem co_X4_favour : Cond.code yX4_favour cX4_favour 3 (some .int) ∈ bw_all := bw_mem 385 (by decide +kernel) (by decide +kernel)
theorem ml_L_60 : Cond.methodLink "BowSpeechesLaw" 60 yX4_count ∈ bw_all := bw_mem 386 (by decide +kernel) (by decide +kernel)
theorem im_X4_count : Cond.instanceMethod yX4_count ∈ bw_all := bw_mem 387 (by decide +kernel) (by decide +kernel)
theorem se_X4_count : Cond.selects "BowSpeeches" yX4_count yX4_count ∈ bw_all := bw_mem 388 (by decide +kernel) (by decide +kernel)
theorem co_X4_count : Cond.code yX4_count cX4_count 2 (some .int) ∈ bw_all := bw_mem 389 (by decide +kernel) (by decide +kernel)
theorem ml_X4_155 : Cond.methodLink "BowSpeeches" 155 yX4_courtiersMisled ∈ bw_all := bw_mem 390 (by decide +kernel) (by decide +kernel)
theorem im_X4_courtiersMisled : Cond.instanceMethod yX4_courtiersMisled ∈ bw_all := bw_mem 392 (by decide +kernel) (by decide +kernel)
theorem co_X4_courtiersMisled : Cond.code yX4_courtiersMisled cX4_courtiersMisled 3 (some .int) ∈ bw_all := bw_mem 393 (by decide +kernel) (by decide +kernel)
theorem ml_X4_210 : Cond.methodLink "BowSpeeches" 210 yX3_saysTheSameAs ∈ bw_all := bw_mem 394 (by decide +kernel) (by decide +kernel)
theorem im_X3_saysTheSameAs : Cond.instanceMethod yX3_saysTheSameAs ∈ bw_all := bw_mem 395 (by decide +kernel) (by decide +kernel)
theorem se_X3_saysTheSameAs : Cond.selects "BowSpeeches$Seen" yX3_saysTheSameAs yX3_saysTheSameAs ∈ bw_all := bw_mem 396 (by decide +kernel) (by decide +kernel)
theorem co_X3_saysTheSameAs : Cond.code yX3_saysTheSameAs cX3_saysTheSameAs 3 (some .boolean) ∈ bw_all := bw_mem 397 (by decide +kernel) (by decide +kernel)
theorem ml_X4_158 : Cond.methodLink "BowSpeeches" 158 yX4_sumOfAllFavours ∈ bw_all := bw_mem 398 (by decide +kernel) (by decide +kernel)
theorem im_X4_sumOfAllFavours : Cond.instanceMethod yX4_sumOfAllFavours ∈ bw_all := bw_mem 400 (by decide +kernel) (by decide +kernel)
theorem co_X4_sumOfAllFavours : Cond.code yX4_sumOfAllFavours cX4_sumOfAllFavours 3 (some .int) ∈ bw_all := bw_mem 401 (by decide +kernel) (by decide +kernel)
theorem ml_X4_167 : Cond.methodLink "BowSpeeches" 167 yX4_favoursOfCourtier ∈ bw_all := bw_mem 402 (by decide +kernel) (by decide +kernel)
theorem im_X4_favoursOfCourtier : Cond.instanceMethod yX4_favoursOfCourtier ∈ bw_all := bw_mem 404 (by decide +kernel) (by decide +kernel)
theorem co_X4_favoursOfCourtier : Cond.code yX4_favoursOfCourtier cX4_favoursOfCourtier 4 (some .int) ∈ bw_all := bw_mem 405 (by decide +kernel) (by decide +kernel)
theorem ml_L_65 : Cond.methodLink "BowSpeechesLaw" 65 yX4_courtier ∈ bw_all := bw_mem 406 (by decide +kernel) (by decide +kernel)
theorem im_X4_courtier : Cond.instanceMethod yX4_courtier ∈ bw_all := bw_mem 407 (by decide +kernel) (by decide +kernel)
theorem se_X4_courtier : Cond.selects "BowSpeeches" yX4_courtier yX4_courtier ∈ bw_all := bw_mem 408 (by decide +kernel) (by decide +kernel)
theorem co_X4_courtier : Cond.code yX4_courtier cX4_courtier 3 (some .int) ∈ bw_all := bw_mem 409 (by decide +kernel) (by decide +kernel)
theorem ml_X4_164 : Cond.methodLink "BowSpeeches" 164 yX4_favoursForGiver ∈ bw_all := bw_mem 410 (by decide +kernel) (by decide +kernel)
theorem im_X4_favoursForGiver : Cond.instanceMethod yX4_favoursForGiver ∈ bw_all := bw_mem 412 (by decide +kernel) (by decide +kernel)
theorem co_X4_favoursForGiver : Cond.code yX4_favoursForGiver cX4_favoursForGiver 4 (some .int) ∈ bw_all := bw_mem 413 (by decide +kernel) (by decide +kernel)
theorem ml_X4_170 : Cond.methodLink "BowSpeeches" 170 yX4_sentencesTakenIfGiven ∈ bw_all := bw_mem 414 (by decide +kernel) (by decide +kernel)
theorem im_X4_sentencesTakenIfGiven : Cond.instanceMethod yX4_sentencesTakenIfGiven ∈ bw_all := bw_mem 416 (by decide +kernel) (by decide +kernel)
theorem co_X4_sentencesTakenIfGiven : Cond.code yX4_sentencesTakenIfGiven cX4_sentencesTakenIfGiven 2 (some .int) ∈ bw_all := bw_mem 417 (by decide +kernel) (by decide +kernel)
theorem ml_L_69 : Cond.methodLink "BowSpeechesLaw" 69 yX4_ifGiven ∈ bw_all := bw_mem 418 (by decide +kernel) (by decide +kernel)
theorem im_X4_ifGiven : Cond.instanceMethod yX4_ifGiven ∈ bw_all := bw_mem 419 (by decide +kernel) (by decide +kernel)
theorem se_X4_ifGiven : Cond.selects "BowSpeeches" yX4_ifGiven yX4_ifGiven ∈ bw_all := bw_mem 420 (by decide +kernel) (by decide +kernel)
theorem co_X4_ifGiven : Cond.code yX4_ifGiven cX4_ifGiven 3 (some .int) ∈ bw_all := bw_mem 421 (by decide +kernel) (by decide +kernel)
theorem ml_L_73 : Cond.methodLink "BowSpeechesLaw" 73 yX4_bestBow ∈ bw_all := bw_mem 422 (by decide +kernel) (by decide +kernel)
theorem im_X4_bestBow : Cond.instanceMethod yX4_bestBow ∈ bw_all := bw_mem 423 (by decide +kernel) (by decide +kernel)
theorem se_X4_bestBow : Cond.selects "BowSpeeches" yX4_bestBow yX4_bestBow ∈ bw_all := bw_mem 424 (by decide +kernel) (by decide +kernel)
theorem co_X4_bestBow : Cond.code yX4_bestBow cX4_bestBow 4 (some .int) ∈ bw_all := bw_mem 425 (by decide +kernel) (by decide +kernel)
theorem ml_L_77 : Cond.methodLink "BowSpeechesLaw" 77 yX4_darling ∈ bw_all := bw_mem 426 (by decide +kernel) (by decide +kernel)
theorem im_X4_darling : Cond.instanceMethod yX4_darling ∈ bw_all := bw_mem 427 (by decide +kernel) (by decide +kernel)
theorem se_X4_darling : Cond.selects "BowSpeeches" yX4_darling yX4_darling ∈ bw_all := bw_mem 428 (by decide +kernel) (by decide +kernel)
theorem co_X4_darling : Cond.code yX4_darling cX4_darling 3 (some .int) ∈ bw_all := bw_mem 429 (by decide +kernel) (by decide +kernel)
theorem ml_L_83 : Cond.methodLink "BowSpeechesLaw" 83 yX4_put ∈ bw_all := bw_mem 430 (by decide +kernel) (by decide +kernel)
theorem im_X4_put : Cond.instanceMethod yX4_put ∈ bw_all := bw_mem 431 (by decide +kernel) (by decide +kernel)
theorem se_X4_put : Cond.selects "BowSpeeches" yX4_put yX4_put ∈ bw_all := bw_mem 432 (by decide +kernel) (by decide +kernel)
theorem co_X4_put : Cond.code yX4_put cX4_put 5 (some .int) ∈ bw_all := bw_mem 433 (by decide +kernel) (by decide +kernel)
theorem ml_X4_176 : Cond.methodLink "BowSpeeches" 176 yX4_codesIn ∈ bw_all := bw_mem 434 (by decide +kernel) (by decide +kernel)
theorem st_X4_codesIn : Cond.static yX4_codesIn ∈ bw_all := bw_mem 435 (by decide +kernel) (by decide +kernel)
theorem co_X4_codesIn : Cond.code yX4_codesIn cX4_codesIn 4 (some .int) ∈ bw_all := bw_mem 436 (by decide +kernel) (by decide +kernel)
theorem ml_X4_180 : Cond.methodLink "BowSpeeches" 180 yX4_codeAt ∈ bw_all := bw_mem 437 (by decide +kernel) (by decide +kernel)
theorem st_X4_codeAt : Cond.static yX4_codeAt ∈ bw_all := bw_mem 438 (by decide +kernel) (by decide +kernel)
theorem co_X4_codeAt : Cond.code yX4_codeAt cX4_codeAt 3 (some .int) ∈ bw_all := bw_mem 439 (by decide +kernel) (by decide +kernel)
theorem ml_X4_184 : Cond.methodLink "BowSpeeches" 184 yX2_append ∈ bw_all := bw_mem 440 (by decide +kernel) (by decide +kernel)
theorem im_X2_append : Cond.instanceMethod yX2_append ∈ bw_all := bw_mem 441 (by decide +kernel) (by decide +kernel)
theorem se_X2_append : Cond.selects "BowSpeeches$Pad" yX2_append yX2_append ∈ bw_all := bw_mem 442 (by decide +kernel) (by decide +kernel)
theorem co_X2_append : Cond.code yX2_append cX2_append 2 none ∈ bw_all := bw_mem 443 (by decide +kernel) (by decide +kernel)
theorem ml_L_88 : Cond.methodLink "BowSpeechesLaw" 88 yX4_wipe ∈ bw_all := bw_mem 444 (by decide +kernel) (by decide +kernel)
theorem im_X4_wipe : Cond.instanceMethod yX4_wipe ∈ bw_all := bw_mem 445 (by decide +kernel) (by decide +kernel)
theorem se_X4_wipe : Cond.selects "BowSpeeches" yX4_wipe yX4_wipe ∈ bw_all := bw_mem 446 (by decide +kernel) (by decide +kernel)
theorem co_X4_wipe : Cond.code yX4_wipe cX4_wipe 2 (some .int) ∈ bw_all := bw_mem 447 (by decide +kernel) (by decide +kernel)
theorem ml_L_92 : Cond.methodLink "BowSpeechesLaw" 92 yX4_fault ∈ bw_all := bw_mem 448 (by decide +kernel) (by decide +kernel)
theorem im_X4_fault : Cond.instanceMethod yX4_fault ∈ bw_all := bw_mem 449 (by decide +kernel) (by decide +kernel)
theorem se_X4_fault : Cond.selects "BowSpeeches" yX4_fault yX4_fault ∈ bw_all := bw_mem 450 (by decide +kernel) (by decide +kernel)
theorem co_X4_fault : Cond.code yX4_fault cX4_fault 1 (some .int) ∈ bw_all := bw_mem 451 (by decide +kernel) (by decide +kernel)
theorem ml_L_96 : Cond.methodLink "BowSpeechesLaw" 96 yX4_undo ∈ bw_all := bw_mem 452 (by decide +kernel) (by decide +kernel)
theorem im_X4_undo : Cond.instanceMethod yX4_undo ∈ bw_all := bw_mem 453 (by decide +kernel) (by decide +kernel)
theorem se_X4_undo : Cond.selects "BowSpeeches" yX4_undo yX4_undo ∈ bw_all := bw_mem 454 (by decide +kernel) (by decide +kernel)
theorem co_X4_undo : Cond.code yX4_undo cX4_undo 1 (some .int) ∈ bw_all := bw_mem 455 (by decide +kernel) (by decide +kernel)
theorem ml_X4_188 : Cond.methodLink "BowSpeeches" 188 yX1_stepBack ∈ bw_all := bw_mem 456 (by decide +kernel) (by decide +kernel)
theorem im_X1_stepBack : Cond.instanceMethod yX1_stepBack ∈ bw_all := bw_mem 457 (by decide +kernel) (by decide +kernel)
theorem se_X1_stepBack : Cond.selects "BowSpeeches$History" yX1_stepBack yX1_stepBack ∈ bw_all := bw_mem 458 (by decide +kernel) (by decide +kernel)
theorem co_X1_stepBack : Cond.code yX1_stepBack cX1_stepBack 3 (some .boolean) ∈ bw_all := bw_mem 459 (by decide +kernel) (by decide +kernel)
theorem ml_X1_34 : Cond.methodLink "BowSpeeches$History" 34 yX0_become ∈ bw_all := bw_mem 460 (by decide +kernel) (by decide +kernel)
theorem ml_L_100 : Cond.methodLink "BowSpeechesLaw" 100 yX4_save ∈ bw_all := bw_mem 461 (by decide +kernel) (by decide +kernel)
theorem im_X4_save : Cond.instanceMethod yX4_save ∈ bw_all := bw_mem 462 (by decide +kernel) (by decide +kernel)
theorem se_X4_save : Cond.selects "BowSpeeches" yX4_save yX4_save ∈ bw_all := bw_mem 463 (by decide +kernel) (by decide +kernel)
theorem co_X4_save : Cond.code yX4_save cX4_save 2 (some .int) ∈ bw_all := bw_mem 464 (by decide +kernel) (by decide +kernel)
theorem ml_X4_192 : Cond.methodLink "BowSpeeches" 192 yX4_isSlot ∈ bw_all := bw_mem 465 (by decide +kernel) (by decide +kernel)
theorem st_X4_isSlot : Cond.static yX4_isSlot ∈ bw_all := bw_mem 466 (by decide +kernel) (by decide +kernel)
theorem co_X4_isSlot : Cond.code yX4_isSlot cX4_isSlot 1 (some .boolean) ∈ bw_all := bw_mem 467 (by decide +kernel) (by decide +kernel)
theorem ml_X4_195 : Cond.methodLink "BowSpeeches" 195 yX4_copyOf ∈ bw_all := bw_mem 468 (by decide +kernel) (by decide +kernel)
theorem ml_L_104 : Cond.methodLink "BowSpeechesLaw" 104 yX4_restore ∈ bw_all := bw_mem 469 (by decide +kernel) (by decide +kernel)
theorem im_X4_restore : Cond.instanceMethod yX4_restore ∈ bw_all := bw_mem 470 (by decide +kernel) (by decide +kernel)
theorem se_X4_restore : Cond.selects "BowSpeeches" yX4_restore yX4_restore ∈ bw_all := bw_mem 471 (by decide +kernel) (by decide +kernel)
theorem co_X4_restore : Cond.code yX4_restore cX4_restore 3 (some .int) ∈ bw_all := bw_mem 472 (by decide +kernel) (by decide +kernel)
theorem cl_L_10 : Cond.classLink "BowSpeechesLaw" 10 "BowSpeechesModel" ∈ bw_all := bw_mem 473 (by decide +kernel) (by decide +kernel)
theorem is_X5 : Cond.instantiable "BowSpeechesModel" 17 ∈ bw_all := bw_mem 474 (by decide +kernel) (by decide +kernel)
theorem ml_L_12 : Cond.methodLink "BowSpeechesLaw" 12 yX5_init ∈ bw_all := bw_mem 475 (by decide +kernel) (by decide +kernel)
theorem im_X5_init : Cond.instanceMethod yX5_init ∈ bw_all := bw_mem 476 (by decide +kernel) (by decide +kernel)
theorem co_X5_init : Cond.code yX5_init cX5_init 1 none ∈ bw_all := bw_mem 477 (by decide +kernel) (by decide +kernel)
theorem ml_X5_1 : Cond.methodLink "BowSpeechesModel" 1 Lib.objectInit ∈ bw_all := bw_mem 478 (by decide +kernel) (by decide +kernel)
theorem fl_X5_7 : Cond.fieldLink "BowSpeechesModel" 7 "BowSpeechesModel" "all" "[I" ∈ bw_all := bw_mem 479 (by decide +kernel) (by decide +kernel)
theorem fl_X5_13 : Cond.fieldLink "BowSpeechesModel" 13 "BowSpeechesModel" "kept" "[I" ∈ bw_all := bw_mem 480 (by decide +kernel) (by decide +kernel)
theorem fl_X5_16 : Cond.fieldLink "BowSpeechesModel" 16 "BowSpeechesModel" "history" "[I" ∈ bw_all := bw_mem 481 (by decide +kernel) (by decide +kernel)
theorem fl_X5_43 : Cond.fieldLink "BowSpeechesModel" 43 "BowSpeechesModel" "historyLong" "I" ∈ bw_all := bw_mem 482 (by decide +kernel) (by decide +kernel)
theorem fl_X5_19 : Cond.fieldLink "BowSpeechesModel" 19 "BowSpeechesModel" "slots" "[I" ∈ bw_all := bw_mem 483 (by decide +kernel) (by decide +kernel)
theorem fl_X5_22 : Cond.fieldLink "BowSpeechesModel" 22 "BowSpeechesModel" "isSaved" "[I" ∈ bw_all := bw_mem 484 (by decide +kernel) (by decide +kernel)
theorem fl_X5_25 : Cond.fieldLink "BowSpeechesModel" 25 "BowSpeechesModel" "words" "[I" ∈ bw_all := bw_mem 485 (by decide +kernel) (by decide +kernel)
theorem fl_X5_59 : Cond.fieldLink "BowSpeechesModel" 59 "BowSpeechesModel" "groups" "I" ∈ bw_all := bw_mem 486 (by decide +kernel) (by decide +kernel)
theorem fl_X5_28 : Cond.fieldLink "BowSpeechesModel" 28 "BowSpeechesModel" "left" "[I" ∈ bw_all := bw_mem 487 (by decide +kernel) (by decide +kernel)
theorem fl_X5_71 : Cond.fieldLink "BowSpeechesModel" 71 "BowSpeechesModel" "leftLong" "I" ∈ bw_all := bw_mem 488 (by decide +kernel) (by decide +kernel)
theorem fl_X5_31 : Cond.fieldLink "BowSpeechesModel" 31 "BowSpeechesModel" "seen" "[I" ∈ bw_all := bw_mem 489 (by decide +kernel) (by decide +kernel)
theorem fl_X5_34 : Cond.fieldLink "BowSpeechesModel" 34 "BowSpeechesModel" "text" "[I" ∈ bw_all := bw_mem 490 (by decide +kernel) (by decide +kernel)
theorem fl_X5_144 : Cond.fieldLink "BowSpeechesModel" 144 "BowSpeechesModel" "textLong" "I" ∈ bw_all := bw_mem 491 (by decide +kernel) (by decide +kernel)
theorem fl_X5_184 : Cond.fieldLink "BowSpeechesModel" 184 "BowSpeechesModel" "spot" "I" ∈ bw_all := bw_mem 492 (by decide +kernel) (by decide +kernel)
theorem fl_X5_37 : Cond.fieldLink "BowSpeechesModel" 37 "BowSpeechesModel" "signs" "[I" ∈ bw_all := bw_mem 493 (by decide +kernel) (by decide +kernel)
theorem fl_X5_40 : Cond.fieldLink "BowSpeechesModel" 40 "BowSpeechesModel" "pauses" "[I" ∈ bw_all := bw_mem 494 (by decide +kernel) (by decide +kernel)
theorem fl_X5_141 : Cond.fieldLink "BowSpeechesModel" 141 "BowSpeechesModel" "read" "I" ∈ bw_all := bw_mem 495 (by decide +kernel) (by decide +kernel)
theorem ml_L_17 : Cond.methodLink "BowSpeechesLaw" 17 yX5_set ∈ bw_all := bw_mem 531 (by decide +kernel) (by decide +kernel)
theorem im_X5_set : Cond.instanceMethod yX5_set ∈ bw_all := bw_mem 532 (by decide +kernel) (by decide +kernel)
theorem se_X5_set : Cond.selects "BowSpeechesModel" yX5_set yX5_set ∈ bw_all := bw_mem 533 (by decide +kernel) (by decide +kernel)
theorem co_X5_set : Cond.code yX5_set cX5_set 4 (some .int) ∈ bw_all := bw_mem 534 (by decide +kernel) (by decide +kernel)
theorem ml_X5_118 : Cond.methodLink "BowSpeechesModel" 118 yX5_isSetting ∈ bw_all := bw_mem 535 (by decide +kernel) (by decide +kernel)
theorem st_X5_isSetting : Cond.static yX5_isSetting ∈ bw_all := bw_mem 536 (by decide +kernel) (by decide +kernel)
theorem co_X5_isSetting : Cond.code yX5_isSetting cX5_isSetting 2 (some .boolean) ∈ bw_all := bw_mem 537 (by decide +kernel) (by decide +kernel)
theorem ct_X5_47 : Cond.constantLong "BowSpeechesModel" 47 (2) ∈ bw_all := bw_mem 538 (by decide +kernel) (by decide +kernel)
theorem ct_X5_116 : Cond.constantLong "BowSpeechesModel" 116 (9) ∈ bw_all := bw_mem 539 (by decide +kernel) (by decide +kernel)
theorem ml_X5_49 : Cond.methodLink "BowSpeechesModel" 49 yX5_in ∈ bw_all := bw_mem 540 (by decide +kernel) (by decide +kernel)
theorem st_X5_in : Cond.static yX5_in ∈ bw_all := bw_mem 541 (by decide +kernel) (by decide +kernel)
theorem co_X5_in : Cond.code yX5_in cX5_in 6 (some .boolean) ∈ bw_all := bw_mem 542 (by decide +kernel) (by decide +kernel)
theorem ct_X5_121 : Cond.constant "BowSpeechesModel" 121 (-1000002) ∈ bw_all := bw_mem 543 (by decide +kernel) (by decide +kernel)
theorem ml_X5_122 : Cond.methodLink "BowSpeechesModel" 122 yX5_changes ∈ bw_all := bw_mem 544 (by decide +kernel) (by decide +kernel)
theorem im_X5_changes : Cond.instanceMethod yX5_changes ∈ bw_all := bw_mem 546 (by decide +kernel) (by decide +kernel)
theorem co_X5_changes : Cond.code yX5_changes cX5_changes 2 none ∈ bw_all := bw_mem 547 (by decide +kernel) (by decide +kernel)
theorem ml_L_21 : Cond.methodLink "BowSpeechesLaw" 21 yX5_eyes ∈ bw_all := bw_mem 548 (by decide +kernel) (by decide +kernel)
theorem im_X5_eyes : Cond.instanceMethod yX5_eyes ∈ bw_all := bw_mem 549 (by decide +kernel) (by decide +kernel)
theorem se_X5_eyes : Cond.selects "BowSpeechesModel" yX5_eyes yX5_eyes ∈ bw_all := bw_mem 550 (by decide +kernel) (by decide +kernel)
theorem co_X5_eyes : Cond.code yX5_eyes cX5_eyes 4 (some .int) ∈ bw_all := bw_mem 551 (by decide +kernel) (by decide +kernel)
theorem ml_X5_78 : Cond.methodLink "BowSpeechesModel" 78 yX5_isCourtier ∈ bw_all := bw_mem 552 (by decide +kernel) (by decide +kernel)
theorem st_X5_isCourtier : Cond.static yX5_isCourtier ∈ bw_all := bw_mem 553 (by decide +kernel) (by decide +kernel)
theorem co_X5_isCourtier : Cond.code yX5_isCourtier cX5_isCourtier 1 (some .boolean) ∈ bw_all := bw_mem 554 (by decide +kernel) (by decide +kernel)
theorem ct_X5_53 : Cond.constantLong "BowSpeechesModel" 53 (5) ∈ bw_all := bw_mem 555 (by decide +kernel) (by decide +kernel)
theorem ct_X5_125 : Cond.constant "BowSpeechesModel" 125 (-1000001) ∈ bw_all := bw_mem 556 (by decide +kernel) (by decide +kernel)
theorem ml_X5_126 : Cond.methodLink "BowSpeechesModel" 126 yX5_areEyes ∈ bw_all := bw_mem 557 (by decide +kernel) (by decide +kernel)
theorem st_X5_areEyes : Cond.static yX5_areEyes ∈ bw_all := bw_mem 558 (by decide +kernel) (by decide +kernel)
theorem co_X5_areEyes : Cond.code yX5_areEyes cX5_areEyes 1 (some .boolean) ∈ bw_all := bw_mem 559 (by decide +kernel) (by decide +kernel)
theorem ml_L_26 : Cond.methodLink "BowSpeechesLaw" 26 yX5_bow ∈ bw_all := bw_mem 560 (by decide +kernel) (by decide +kernel)
theorem im_X5_bow : Cond.instanceMethod yX5_bow ∈ bw_all := bw_mem 561 (by decide +kernel) (by decide +kernel)
theorem se_X5_bow : Cond.selects "BowSpeechesModel" yX5_bow yX5_bow ∈ bw_all := bw_mem 562 (by decide +kernel) (by decide +kernel)
theorem co_X5_bow : Cond.code yX5_bow cX5_bow 4 (some .int) ∈ bw_all := bw_mem 563 (by decide +kernel) (by decide +kernel)
theorem ct_X5_129 : Cond.constantLong "BowSpeechesModel" 129 (3) ∈ bw_all := bw_mem 564 (by decide +kernel) (by decide +kernel)
theorem ct_X5_131 : Cond.constant "BowSpeechesModel" 131 (-1000004) ∈ bw_all := bw_mem 565 (by decide +kernel) (by decide +kernel)
theorem ml_X5_132 : Cond.methodLink "BowSpeechesModel" 132 yX5_adds ∈ bw_all := bw_mem 566 (by decide +kernel) (by decide +kernel)
theorem im_X5_adds : Cond.instanceMethod yX5_adds ∈ bw_all := bw_mem 568 (by decide +kernel) (by decide +kernel)
theorem co_X5_adds : Cond.code yX5_adds cX5_adds 3 none ∈ bw_all := bw_mem 569 (by decide +kernel) (by decide +kernel)
theorem ml_L_31 : Cond.methodLink "BowSpeechesLaw" 31 yX5_takeBack ∈ bw_all := bw_mem 570 (by decide +kernel) (by decide +kernel)
theorem im_X5_takeBack : Cond.instanceMethod yX5_takeBack ∈ bw_all := bw_mem 571 (by decide +kernel) (by decide +kernel)
theorem se_X5_takeBack : Cond.selects "BowSpeechesModel" yX5_takeBack yX5_takeBack ∈ bw_all := bw_mem 572 (by decide +kernel) (by decide +kernel)
theorem co_X5_takeBack : Cond.code yX5_takeBack cX5_takeBack 2 (some .int) ∈ bw_all := bw_mem 573 (by decide +kernel) (by decide +kernel)
theorem ct_X5_136 : Cond.constant "BowSpeechesModel" 136 (-1000005) ∈ bw_all := bw_mem 574 (by decide +kernel) (by decide +kernel)
theorem ml_L_35 : Cond.methodLink "BowSpeechesLaw" 35 yX5_read ∈ bw_all := bw_mem 575 (by decide +kernel) (by decide +kernel)
theorem im_X5_read : Cond.instanceMethod yX5_read ∈ bw_all := bw_mem 576 (by decide +kernel) (by decide +kernel)
theorem se_X5_read : Cond.selects "BowSpeechesModel" yX5_read yX5_read ∈ bw_all := bw_mem 577 (by decide +kernel) (by decide +kernel)
theorem co_X5_read : Cond.code yX5_read cX5_read 2 (some .int) ∈ bw_all := bw_mem 578 (by decide +kernel) (by decide +kernel)
theorem ml_X5_137 : Cond.methodLink "BowSpeechesModel" 137 yX5_fault ∈ bw_all := bw_mem 579 (by decide +kernel) (by decide +kernel)
theorem im_X5_fault : Cond.instanceMethod yX5_fault ∈ bw_all := bw_mem 580 (by decide +kernel) (by decide +kernel)
theorem se_X5_fault : Cond.selects "BowSpeechesModel" yX5_fault yX5_fault ∈ bw_all := bw_mem 581 (by decide +kernel) (by decide +kernel)
theorem co_X5_fault : Cond.code yX5_fault cX5_fault 2 (some .int) ∈ bw_all := bw_mem 582 (by decide +kernel) (by decide +kernel)
theorem ml_X5_193 : Cond.methodLink "BowSpeechesModel" 193 yX5_readsBow ∈ bw_all := bw_mem 583 (by decide +kernel) (by decide +kernel)
theorem im_X5_readsBow : Cond.instanceMethod yX5_readsBow ∈ bw_all := bw_mem 585 (by decide +kernel) (by decide +kernel)
theorem co_X5_readsBow : Cond.code yX5_readsBow cX5_readsBow 1 (some .boolean) ∈ bw_all := bw_mem 586 (by decide +kernel) (by decide +kernel)
theorem ml_X5_187 : Cond.methodLink "BowSpeechesModel" 187 yX5_isHere ∈ bw_all := bw_mem 587 (by decide +kernel) (by decide +kernel)
theorem im_X5_isHere : Cond.instanceMethod yX5_isHere ∈ bw_all := bw_mem 589 (by decide +kernel) (by decide +kernel)
theorem co_X5_isHere : Cond.code yX5_isHere cX5_isHere 3 (some .boolean) ∈ bw_all := bw_mem 590 (by decide +kernel) (by decide +kernel)
theorem ml_X5_190 : Cond.methodLink "BowSpeechesModel" 190 yX5_takesOne ∈ bw_all := bw_mem 591 (by decide +kernel) (by decide +kernel)
theorem im_X5_takesOne : Cond.instanceMethod yX5_takesOne ∈ bw_all := bw_mem 593 (by decide +kernel) (by decide +kernel)
theorem co_X5_takesOne : Cond.code yX5_takesOne cX5_takesOne 3 (some .boolean) ∈ bw_all := bw_mem 594 (by decide +kernel) (by decide +kernel)
theorem ct_X5_70 : Cond.constant "BowSpeechesModel" 70 (-1000006) ∈ bw_all := bw_mem 595 (by decide +kernel) (by decide +kernel)
theorem ct_X5_140 : Cond.constant "BowSpeechesModel" 140 (-1000003) ∈ bw_all := bw_mem 596 (by decide +kernel) (by decide +kernel)
theorem ml_L_39 : Cond.methodLink "BowSpeechesLaw" 39 yX5_hush ∈ bw_all := bw_mem 597 (by decide +kernel) (by decide +kernel)
theorem im_X5_hush : Cond.instanceMethod yX5_hush ∈ bw_all := bw_mem 598 (by decide +kernel) (by decide +kernel)
theorem se_X5_hush : Cond.selects "BowSpeechesModel" yX5_hush yX5_hush ∈ bw_all := bw_mem 599 (by decide +kernel) (by decide +kernel)
theorem co_X5_hush : Cond.code yX5_hush cX5_hush 2 (some .int) ∈ bw_all := bw_mem 600 (by decide +kernel) (by decide +kernel)
theorem ml_X5_113 : Cond.methodLink "BowSpeechesModel" 113 yX5_hushes ∈ bw_all := bw_mem 601 (by decide +kernel) (by decide +kernel)
theorem im_X5_hushes : Cond.instanceMethod yX5_hushes ∈ bw_all := bw_mem 603 (by decide +kernel) (by decide +kernel)
theorem co_X5_hushes : Cond.code yX5_hushes cX5_hushes 2 none ∈ bw_all := bw_mem 604 (by decide +kernel) (by decide +kernel)
theorem ml_L_43 : Cond.methodLink "BowSpeechesLaw" 43 yX5_give ∈ bw_all := bw_mem 605 (by decide +kernel) (by decide +kernel)
theorem im_X5_give : Cond.instanceMethod yX5_give ∈ bw_all := bw_mem 606 (by decide +kernel) (by decide +kernel)
theorem se_X5_give : Cond.selects "BowSpeechesModel" yX5_give yX5_give ∈ bw_all := bw_mem 607 (by decide +kernel) (by decide +kernel)
theorem co_X5_give : Cond.code yX5_give cX5_give 1 (some .int) ∈ bw_all := bw_mem 608 (by decide +kernel) (by decide +kernel)
theorem ml_X5_147 : Cond.methodLink "BowSpeechesModel" 147 yX5_canGive ∈ bw_all := bw_mem 609 (by decide +kernel) (by decide +kernel)
theorem im_X5_canGive : Cond.instanceMethod yX5_canGive ∈ bw_all := bw_mem 611 (by decide +kernel) (by decide +kernel)
theorem co_X5_canGive : Cond.code yX5_canGive cX5_canGive 1 (some .boolean) ∈ bw_all := bw_mem 612 (by decide +kernel) (by decide +kernel)
theorem ml_X5_102 : Cond.methodLink "BowSpeechesModel" 102 yX5_sentences ∈ bw_all := bw_mem 613 (by decide +kernel) (by decide +kernel)
theorem im_X5_sentences : Cond.instanceMethod yX5_sentences ∈ bw_all := bw_mem 615 (by decide +kernel) (by decide +kernel)
theorem co_X5_sentences : Cond.code yX5_sentences cX5_sentences 2 (some .int) ∈ bw_all := bw_mem 616 (by decide +kernel) (by decide +kernel)
theorem ml_X5_91 : Cond.methodLink "BowSpeechesModel" 91 yX5_parts ∈ bw_all := bw_mem 617 (by decide +kernel) (by decide +kernel)
theorem im_X5_parts : Cond.instanceMethod yX5_parts ∈ bw_all := bw_mem 619 (by decide +kernel) (by decide +kernel)
theorem co_X5_parts : Cond.code yX5_parts cX5_parts 5 none ∈ bw_all := bw_mem 620 (by decide +kernel) (by decide +kernel)
theorem ml_X5_62 : Cond.methodLink "BowSpeechesModel" 62 yX5_signSeen ∈ bw_all := bw_mem 621 (by decide +kernel) (by decide +kernel)
theorem im_X5_signSeen : Cond.instanceMethod yX5_signSeen ∈ bw_all := bw_mem 623 (by decide +kernel) (by decide +kernel)
theorem co_X5_signSeen : Cond.code yX5_signSeen cX5_signSeen 4 (some .int) ∈ bw_all := bw_mem 624 (by decide +kernel) (by decide +kernel)
theorem ml_X5_66 : Cond.methodLink "BowSpeechesModel" 66 yX5_endsSeen ∈ bw_all := bw_mem 625 (by decide +kernel) (by decide +kernel)
theorem im_X5_endsSeen : Cond.instanceMethod yX5_endsSeen ∈ bw_all := bw_mem 627 (by decide +kernel) (by decide +kernel)
theorem co_X5_endsSeen : Cond.code yX5_endsSeen cX5_endsSeen 4 (some .boolean) ∈ bw_all := bw_mem 628 (by decide +kernel) (by decide +kernel)
theorem ml_X5_74 : Cond.methodLink "BowSpeechesModel" 74 yX5_isFlourish ∈ bw_all := bw_mem 629 (by decide +kernel) (by decide +kernel)
theorem st_X5_isFlourish : Cond.static yX5_isFlourish ∈ bw_all := bw_mem 630 (by decide +kernel) (by decide +kernel)
theorem co_X5_isFlourish : Cond.code yX5_isFlourish cX5_isFlourish 1 (some .boolean) ∈ bw_all := bw_mem 631 (by decide +kernel) (by decide +kernel)
theorem ml_X5_95 : Cond.methodLink "BowSpeechesModel" 95 yX5_reason ∈ bw_all := bw_mem 632 (by decide +kernel) (by decide +kernel)
theorem im_X5_reason : Cond.instanceMethod yX5_reason ∈ bw_all := bw_mem 634 (by decide +kernel) (by decide +kernel)
theorem co_X5_reason : Cond.code yX5_reason cX5_reason 4 (some .int) ∈ bw_all := bw_mem 635 (by decide +kernel) (by decide +kernel)
theorem ml_X5_84 : Cond.methodLink "BowSpeechesModel" 84 yX5_isTooLong ∈ bw_all := bw_mem 636 (by decide +kernel) (by decide +kernel)
theorem im_X5_isTooLong : Cond.instanceMethod yX5_isTooLong ∈ bw_all := bw_mem 638 (by decide +kernel) (by decide +kernel)
theorem co_X5_isTooLong : Cond.code yX5_isTooLong cX5_isTooLong 3 (some .boolean) ∈ bw_all := bw_mem 639 (by decide +kernel) (by decide +kernel)
theorem ml_X5_88 : Cond.methodLink "BowSpeechesModel" 88 yX5_isRightThree ∈ bw_all := bw_mem 640 (by decide +kernel) (by decide +kernel)
theorem im_X5_isRightThree : Cond.instanceMethod yX5_isRightThree ∈ bw_all := bw_mem 642 (by decide +kernel) (by decide +kernel)
theorem co_X5_isRightThree : Cond.code yX5_isRightThree cX5_isRightThree 2 (some .boolean) ∈ bw_all := bw_mem 643 (by decide +kernel) (by decide +kernel)
theorem ml_X5_81 : Cond.methodLink "BowSpeechesModel" 81 yX5_isDeed ∈ bw_all := bw_mem 644 (by decide +kernel) (by decide +kernel)
theorem st_X5_isDeed : Cond.static yX5_isDeed ∈ bw_all := bw_mem 645 (by decide +kernel) (by decide +kernel)
theorem co_X5_isDeed : Cond.code yX5_isDeed cX5_isDeed 1 (some .boolean) ∈ bw_all := bw_mem 646 (by decide +kernel) (by decide +kernel)
theorem ct_X5_55 : Cond.constantLong "BowSpeechesModel" 55 (6) ∈ bw_all := bw_mem 647 (by decide +kernel) (by decide +kernel)
theorem ct_X5_57 : Cond.constantLong "BowSpeechesModel" 57 (41) ∈ bw_all := bw_mem 648 (by decide +kernel) (by decide +kernel)
theorem ml_X5_150 : Cond.methodLink "BowSpeechesModel" 150 yX5_gives ∈ bw_all := bw_mem 649 (by decide +kernel) (by decide +kernel)
theorem im_X5_gives : Cond.instanceMethod yX5_gives ∈ bw_all := bw_mem 651 (by decide +kernel) (by decide +kernel)
theorem co_X5_gives : Cond.code yX5_gives cX5_gives 3 (some .int) ∈ bw_all := bw_mem 652 (by decide +kernel) (by decide +kernel)
theorem ml_X5_110 : Cond.methodLink "BowSpeechesModel" 110 yX5_takesAll ∈ bw_all := bw_mem 653 (by decide +kernel) (by decide +kernel)
theorem im_X5_takesAll : Cond.instanceMethod yX5_takesAll ∈ bw_all := bw_mem 655 (by decide +kernel) (by decide +kernel)
theorem co_X5_takesAll : Cond.code yX5_takesAll cX5_takesAll 5 (some .int) ∈ bw_all := bw_mem 656 (by decide +kernel) (by decide +kernel)
theorem ml_X5_106 : Cond.methodLink "BowSpeechesModel" 106 yX5_takes ∈ bw_all := bw_mem 657 (by decide +kernel) (by decide +kernel)
theorem im_X5_takes : Cond.instanceMethod yX5_takes ∈ bw_all := bw_mem 659 (by decide +kernel) (by decide +kernel)
theorem co_X5_takes : Cond.code yX5_takes cX5_takes 7 none ∈ bw_all := bw_mem 660 (by decide +kernel) (by decide +kernel)
theorem ml_X5_99 : Cond.methodLink "BowSpeechesModel" 99 yX5_at ∈ bw_all := bw_mem 661 (by decide +kernel) (by decide +kernel)
theorem st_X5_at : Cond.static yX5_at ∈ bw_all := bw_mem 662 (by decide +kernel) (by decide +kernel)
theorem co_X5_at : Cond.code yX5_at cX5_at 2 (some .int) ∈ bw_all := bw_mem 663 (by decide +kernel) (by decide +kernel)
theorem ml_L_47 : Cond.methodLink "BowSpeechesLaw" 47 yX5_speech ∈ bw_all := bw_mem 664 (by decide +kernel) (by decide +kernel)
theorem im_X5_speech : Cond.instanceMethod yX5_speech ∈ bw_all := bw_mem 665 (by decide +kernel) (by decide +kernel)
theorem se_X5_speech : Cond.selects "BowSpeechesModel" yX5_speech yX5_speech ∈ bw_all := bw_mem 666 (by decide +kernel) (by decide +kernel)
theorem co_X5_speech : Cond.code yX5_speech cX5_speech 4 (some .int) ∈ bw_all := bw_mem 667 (by decide +kernel) (by decide +kernel)
theorem ml_X5_153 : Cond.methodLink "BowSpeechesModel" 153 yX5_flourishes ∈ bw_all := bw_mem 668 (by decide +kernel) (by decide +kernel)
theorem im_X5_flourishes : Cond.instanceMethod yX5_flourishes ∈ bw_all := bw_mem 670 (by decide +kernel) (by decide +kernel)
theorem co_X5_flourishes : Cond.code yX5_flourishes cX5_flourishes 3 (some .int) ∈ bw_all := bw_mem 671 (by decide +kernel) (by decide +kernel)
theorem ml_L_51 : Cond.methodLink "BowSpeechesLaw" 51 yX5_word ∈ bw_all := bw_mem 672 (by decide +kernel) (by decide +kernel)
theorem im_X5_word : Cond.instanceMethod yX5_word ∈ bw_all := bw_mem 673 (by decide +kernel) (by decide +kernel)
theorem se_X5_word : Cond.selects "BowSpeechesModel" yX5_word yX5_word ∈ bw_all := bw_mem 674 (by decide +kernel) (by decide +kernel)
theorem co_X5_word : Cond.code yX5_word cX5_word 3 (some .int) ∈ bw_all := bw_mem 675 (by decide +kernel) (by decide +kernel)
theorem ml_L_55 : Cond.methodLink "BowSpeechesLaw" 55 yX5_sentence ∈ bw_all := bw_mem 676 (by decide +kernel) (by decide +kernel)
theorem im_X5_sentence : Cond.instanceMethod yX5_sentence ∈ bw_all := bw_mem 677 (by decide +kernel) (by decide +kernel)
theorem se_X5_sentence : Cond.selects "BowSpeechesModel" yX5_sentence yX5_sentence ∈ bw_all := bw_mem 678 (by decide +kernel) (by decide +kernel)
theorem co_X5_sentence : Cond.code yX5_sentence cX5_sentence 5 (some .int) ∈ bw_all := bw_mem 679 (by decide +kernel) (by decide +kernel)
theorem ml_L_59 : Cond.methodLink "BowSpeechesLaw" 59 yX5_favour ∈ bw_all := bw_mem 680 (by decide +kernel) (by decide +kernel)
theorem im_X5_favour : Cond.instanceMethod yX5_favour ∈ bw_all := bw_mem 681 (by decide +kernel) (by decide +kernel)
theorem se_X5_favour : Cond.selects "BowSpeechesModel" yX5_favour yX5_favour ∈ bw_all := bw_mem 682 (by decide +kernel) (by decide +kernel)
theorem co_X5_favour : Cond.code yX5_favour cX5_favour 3 (some .int) ∈ bw_all := bw_mem 683 (by decide +kernel) (by decide +kernel)
theorem ml_L_64 : Cond.methodLink "BowSpeechesLaw" 64 yX5_count ∈ bw_all := bw_mem 684 (by decide +kernel) (by decide +kernel)
theorem im_X5_count : Cond.instanceMethod yX5_count ∈ bw_all := bw_mem 685 (by decide +kernel) (by decide +kernel)
theorem se_X5_count : Cond.selects "BowSpeechesModel" yX5_count yX5_count ∈ bw_all := bw_mem 686 (by decide +kernel) (by decide +kernel)
theorem co_X5_count : Cond.code yX5_count cX5_count 2 (some .int) ∈ bw_all := bw_mem 687 (by decide +kernel) (by decide +kernel)
theorem ml_X5_159 : Cond.methodLink "BowSpeechesModel" 159 yX5_othersSeen ∈ bw_all := bw_mem 688 (by decide +kernel) (by decide +kernel)
theorem im_X5_othersSeen : Cond.instanceMethod yX5_othersSeen ∈ bw_all := bw_mem 690 (by decide +kernel) (by decide +kernel)
theorem co_X5_othersSeen : Cond.code yX5_othersSeen cX5_othersSeen 3 (some .int) ∈ bw_all := bw_mem 691 (by decide +kernel) (by decide +kernel)
theorem ml_X5_156 : Cond.methodLink "BowSpeechesModel" 156 yX5_seesOthers ∈ bw_all := bw_mem 692 (by decide +kernel) (by decide +kernel)
theorem im_X5_seesOthers : Cond.instanceMethod yX5_seesOthers ∈ bw_all := bw_mem 694 (by decide +kernel) (by decide +kernel)
theorem co_X5_seesOthers : Cond.code yX5_seesOthers cX5_seesOthers 5 (some .boolean) ∈ bw_all := bw_mem 695 (by decide +kernel) (by decide +kernel)
theorem ml_X5_162 : Cond.methodLink "BowSpeechesModel" 162 yX5_favours ∈ bw_all := bw_mem 696 (by decide +kernel) (by decide +kernel)
theorem im_X5_favours : Cond.instanceMethod yX5_favours ∈ bw_all := bw_mem 698 (by decide +kernel) (by decide +kernel)
theorem co_X5_favours : Cond.code yX5_favours cX5_favours 5 (some .int) ∈ bw_all := bw_mem 699 (by decide +kernel) (by decide +kernel)
theorem ml_L_68 : Cond.methodLink "BowSpeechesLaw" 68 yX5_courtier ∈ bw_all := bw_mem 700 (by decide +kernel) (by decide +kernel)
theorem im_X5_courtier : Cond.instanceMethod yX5_courtier ∈ bw_all := bw_mem 701 (by decide +kernel) (by decide +kernel)
theorem se_X5_courtier : Cond.selects "BowSpeechesModel" yX5_courtier yX5_courtier ∈ bw_all := bw_mem 702 (by decide +kernel) (by decide +kernel)
theorem co_X5_courtier : Cond.code yX5_courtier cX5_courtier 3 (some .int) ∈ bw_all := bw_mem 703 (by decide +kernel) (by decide +kernel)
theorem ml_X5_165 : Cond.methodLink "BowSpeechesModel" 165 yX5_wouldTake ∈ bw_all := bw_mem 704 (by decide +kernel) (by decide +kernel)
theorem im_X5_wouldTake : Cond.instanceMethod yX5_wouldTake ∈ bw_all := bw_mem 706 (by decide +kernel) (by decide +kernel)
theorem co_X5_wouldTake : Cond.code yX5_wouldTake cX5_wouldTake 5 (some .int) ∈ bw_all := bw_mem 707 (by decide +kernel) (by decide +kernel)
theorem ml_L_72 : Cond.methodLink "BowSpeechesLaw" 72 yX5_ifGiven ∈ bw_all := bw_mem 708 (by decide +kernel) (by decide +kernel)
theorem im_X5_ifGiven : Cond.instanceMethod yX5_ifGiven ∈ bw_all := bw_mem 709 (by decide +kernel) (by decide +kernel)
theorem se_X5_ifGiven : Cond.selects "BowSpeechesModel" yX5_ifGiven yX5_ifGiven ∈ bw_all := bw_mem 710 (by decide +kernel) (by decide +kernel)
theorem co_X5_ifGiven : Cond.code yX5_ifGiven cX5_ifGiven 5 (some .int) ∈ bw_all := bw_mem 711 (by decide +kernel) (by decide +kernel)
theorem ml_X5_168 : Cond.methodLink "BowSpeechesModel" 168 yX5_keeps ∈ bw_all := bw_mem 712 (by decide +kernel) (by decide +kernel)
theorem im_X5_keeps : Cond.instanceMethod yX5_keeps ∈ bw_all := bw_mem 714 (by decide +kernel) (by decide +kernel)
theorem co_X5_keeps : Cond.code yX5_keeps cX5_keeps 2 none ∈ bw_all := bw_mem 715 (by decide +kernel) (by decide +kernel)
theorem ml_X5_171 : Cond.methodLink "BowSpeechesModel" 171 yX5_comesBack ∈ bw_all := bw_mem 716 (by decide +kernel) (by decide +kernel)
theorem im_X5_comesBack : Cond.instanceMethod yX5_comesBack ∈ bw_all := bw_mem 718 (by decide +kernel) (by decide +kernel)
theorem co_X5_comesBack : Cond.code yX5_comesBack cX5_comesBack 2 none ∈ bw_all := bw_mem 719 (by decide +kernel) (by decide +kernel)
theorem ml_L_76 : Cond.methodLink "BowSpeechesLaw" 76 yX5_bestBow ∈ bw_all := bw_mem 720 (by decide +kernel) (by decide +kernel)
theorem im_X5_bestBow : Cond.instanceMethod yX5_bestBow ∈ bw_all := bw_mem 721 (by decide +kernel) (by decide +kernel)
theorem se_X5_bestBow : Cond.selects "BowSpeechesModel" yX5_bestBow yX5_bestBow ∈ bw_all := bw_mem 722 (by decide +kernel) (by decide +kernel)
theorem co_X5_bestBow : Cond.code yX5_bestBow cX5_bestBow 5 (some .int) ∈ bw_all := bw_mem 723 (by decide +kernel) (by decide +kernel)
theorem ml_L_80 : Cond.methodLink "BowSpeechesLaw" 80 yX5_darling ∈ bw_all := bw_mem 724 (by decide +kernel) (by decide +kernel)
theorem im_X5_darling : Cond.instanceMethod yX5_darling ∈ bw_all := bw_mem 725 (by decide +kernel) (by decide +kernel)
theorem se_X5_darling : Cond.selects "BowSpeechesModel" yX5_darling yX5_darling ∈ bw_all := bw_mem 726 (by decide +kernel) (by decide +kernel)
theorem co_X5_darling : Cond.code yX5_darling cX5_darling 3 (some .int) ∈ bw_all := bw_mem 727 (by decide +kernel) (by decide +kernel)
theorem ml_L_87 : Cond.methodLink "BowSpeechesLaw" 87 yX5_put ∈ bw_all := bw_mem 728 (by decide +kernel) (by decide +kernel)
theorem im_X5_put : Cond.instanceMethod yX5_put ∈ bw_all := bw_mem 729 (by decide +kernel) (by decide +kernel)
theorem se_X5_put : Cond.selects "BowSpeechesModel" yX5_put yX5_put ∈ bw_all := bw_mem 730 (by decide +kernel) (by decide +kernel)
theorem co_X5_put : Cond.code yX5_put cX5_put 5 (some .int) ∈ bw_all := bw_mem 731 (by decide +kernel) (by decide +kernel)
theorem ml_X5_180 : Cond.methodLink "BowSpeechesModel" 180 yX5_charactersOf ∈ bw_all := bw_mem 732 (by decide +kernel) (by decide +kernel)
theorem st_X5_charactersOf : Cond.static yX5_charactersOf ∈ bw_all := bw_mem 733 (by decide +kernel) (by decide +kernel)
theorem co_X5_charactersOf : Cond.code yX5_charactersOf cX5_charactersOf 5 (some .int) ∈ bw_all := bw_mem 734 (by decide +kernel) (by decide +kernel)
theorem ct_X5_174 : Cond.constantLong "BowSpeechesModel" 174 (255) ∈ bw_all := bw_mem 735 (by decide +kernel) (by decide +kernel)
theorem ct_X5_176 : Cond.constantLong "BowSpeechesModel" 176 (33) ∈ bw_all := bw_mem 736 (by decide +kernel) (by decide +kernel)
theorem ct_X5_178 : Cond.constantLong "BowSpeechesModel" 178 (126) ∈ bw_all := bw_mem 737 (by decide +kernel) (by decide +kernel)
theorem ml_L_91 : Cond.methodLink "BowSpeechesLaw" 91 yX5_wipe ∈ bw_all := bw_mem 738 (by decide +kernel) (by decide +kernel)
theorem im_X5_wipe : Cond.instanceMethod yX5_wipe ∈ bw_all := bw_mem 739 (by decide +kernel) (by decide +kernel)
theorem se_X5_wipe : Cond.selects "BowSpeechesModel" yX5_wipe yX5_wipe ∈ bw_all := bw_mem 740 (by decide +kernel) (by decide +kernel)
theorem co_X5_wipe : Cond.code yX5_wipe cX5_wipe 2 (some .int) ∈ bw_all := bw_mem 741 (by decide +kernel) (by decide +kernel)
theorem ml_L_95 : Cond.methodLink "BowSpeechesLaw" 95 yX5_fault ∈ bw_all := bw_mem 742 (by decide +kernel) (by decide +kernel)
theorem ml_L_99 : Cond.methodLink "BowSpeechesLaw" 99 yX5_undo ∈ bw_all := bw_mem 743 (by decide +kernel) (by decide +kernel)
theorem im_X5_undo : Cond.instanceMethod yX5_undo ∈ bw_all := bw_mem 744 (by decide +kernel) (by decide +kernel)
theorem se_X5_undo : Cond.selects "BowSpeechesModel" yX5_undo yX5_undo ∈ bw_all := bw_mem 745 (by decide +kernel) (by decide +kernel)
theorem co_X5_undo : Cond.code yX5_undo cX5_undo 2 (some .int) ∈ bw_all := bw_mem 746 (by decide +kernel) (by decide +kernel)
theorem ml_L_103 : Cond.methodLink "BowSpeechesLaw" 103 yX5_save ∈ bw_all := bw_mem 747 (by decide +kernel) (by decide +kernel)
theorem im_X5_save : Cond.instanceMethod yX5_save ∈ bw_all := bw_mem 748 (by decide +kernel) (by decide +kernel)
theorem se_X5_save : Cond.selects "BowSpeechesModel" yX5_save yX5_save ∈ bw_all := bw_mem 749 (by decide +kernel) (by decide +kernel)
theorem co_X5_save : Cond.code yX5_save cX5_save 3 (some .int) ∈ bw_all := bw_mem 750 (by decide +kernel) (by decide +kernel)
theorem ml_X5_196 : Cond.methodLink "BowSpeechesModel" 196 yX5_isSlot ∈ bw_all := bw_mem 751 (by decide +kernel) (by decide +kernel)
theorem st_X5_isSlot : Cond.static yX5_isSlot ∈ bw_all := bw_mem 752 (by decide +kernel) (by decide +kernel)
theorem co_X5_isSlot : Cond.code yX5_isSlot cX5_isSlot 1 (some .boolean) ∈ bw_all := bw_mem 753 (by decide +kernel) (by decide +kernel)
theorem ml_L_107 : Cond.methodLink "BowSpeechesLaw" 107 yX5_restore ∈ bw_all := bw_mem 754 (by decide +kernel) (by decide +kernel)
theorem im_X5_restore : Cond.instanceMethod yX5_restore ∈ bw_all := bw_mem 755 (by decide +kernel) (by decide +kernel)
theorem se_X5_restore : Cond.selects "BowSpeechesModel" yX5_restore yX5_restore ∈ bw_all := bw_mem 756 (by decide +kernel) (by decide +kernel)
theorem co_X5_restore : Cond.code yX5_restore cX5_restore 3 (some .int) ∈ bw_all := bw_mem 757 (by decide +kernel) (by decide +kernel)
theorem ct_L_81 : Cond.constantLong "BowSpeechesLaw" 81 (4294967295) ∈ bw_all := bw_mem 758 (by decide +kernel) (by decide +kernel)
def bwK (C0 : String) (T : u_T) (N ci : Nat) (ty0 : Nat → FieldType) : Prop := (∀ w ∈ u_ws C0 T N, w ∈ bw_all) ∧ vwCl[ci]? = some (C0, T, N) ∧ (∀ k, k < N → parseFieldDescriptor (T k).2.2.1 = some (ty0 k)) ∧ ∀ a, a < N → ∀ b, b < N → a ≠ b → (T a).2.1 ≠ (T b).2.1
theorem bkX0 : bwK RX0 TX0 8 0 tyX0 := ⟨fun w h => List.mem_filter.mpr ⟨inX0 w h, List.all_eq_true.mp (by decide +kernel : (u_ws RX0 TX0 8).all goodWord = true) w h⟩, rfl, tyX0_ok, nmX0⟩
theorem bkX1 : bwK RX1 TX1 3 1 tyX1 := ⟨fun w h => List.mem_filter.mpr ⟨inX1 w h, List.all_eq_true.mp (by decide +kernel : (u_ws RX1 TX1 3).all goodWord = true) w h⟩, rfl, tyX1_ok, nmX1⟩
theorem bkX2 : bwK RX2 TX2 2 2 tyX2 := ⟨fun w h => List.mem_filter.mpr ⟨inX2 w h, List.all_eq_true.mp (by decide +kernel : (u_ws RX2 TX2 2).all goodWord = true) w h⟩, rfl, tyX2_ok, nmX2⟩
theorem bkX3 : bwK RX3 TX3 8 3 tyX3 := ⟨fun w h => List.mem_filter.mpr ⟨inX3 w h, List.all_eq_true.mp (by decide +kernel : (u_ws RX3 TX3 8).all goodWord = true) w h⟩, rfl, tyX3_ok, nmX3⟩
theorem bkX4 : bwK RX4 TX4 7 4 tyX4 := ⟨fun w h => List.mem_filter.mpr ⟨inX4 w h, List.all_eq_true.mp (by decide +kernel : (u_ws RX4 TX4 7).all goodWord = true) w h⟩, rfl, tyX4_ok, nmX4⟩
theorem bkX5 : bwK RX5 TX5 17 5 tyX5 := ⟨fun w h => List.mem_filter.mpr ⟨inX5 w h, List.all_eq_true.mp (by decide +kernel : (u_ws RX5 TX5 17).all goodWord = true) w h⟩, rfl, tyX5_ok, nmX5⟩
end
section
/-! small words of the decompiled functions, and what their walks use -/
def bw_F : Nat := 5000
abbrev bw_in (i : Int32) (n : Nat) : Prop := ¬ (i < 0 ∨ n ≤ i.toNatClampNeg)
abbrev bw_nb (x : Int32) : Prop := x = 0 ∨ x = 1
abbrev bw_nc (x : Int32) : Prop := vp_nar .char x = x
abbrev bw_ushr (x : Int64) (y : Int32) : Int64 := (x.toUInt64 >>> (y.toInt64.toUInt64 &&& Int64.toUInt64 63)).toInt64
theorem bw_nbp {x : Int32} (h : bw_nb x) : narrow .boolean (.int x) = .int x := by
  rcases h with h | h <;> subst h <;> rfl
theorem bw_ncp {x : Int32} (h : bw_nc x) : narrow .char (.int x) = .int x := by
  have h1 : vp_nar .char x = x := h
  rw [vp_nar_char] at h1
  show Value.int _ = _
  exact congrArg Value.int h1
theorem bw_pos {c : Prop} [Decidable c] {α : Type} {t e r : α} (hc : c) (h : (if c then t else e) = r) : t = r := (if_pos hc).symm.trans h
theorem bw_neg {c : Prop} [Decidable c] {α : Type} {t e r : α} (hc : ¬ c) (h : (if c then t else e) = r) : e = r := (if_neg hc).symm.trans h
theorem bw_bind {α β : Type} {x : Option α} {f : α → Option β} {r : β} (h : x.bind f = some r) : ∃ a, x = some a ∧ f a = some r := Option.bind_eq_some_iff.mp h
theorem bw_pick1 {α : Type} {X Y : List α} (n : Nat) (is : List Nat) (hl : X.length = n) (hY : is.filterMap (fun i => X[i]?) = Y) (h : is.Perm (List.range n)) : Y.Perm X := by
  subst hl; subst hY
  exact bw_pick X is h
theorem bw_pickT1 {α : Type} {A B Y tl : List α} (n : Nat) (is js : List Nat) (X : List α) (hX : X ++ tl = Y) (hl : X.length = n) (hA : is.filterMap (fun i => X[i]?) = A) (hB : js.filterMap (fun i => X[i]?) ++ tl = B) (h : (is ++ js).Perm (List.range n)) : (A ++ B).Perm Y := by
  subst hl; subst hA; subst hB; subst hX
  have h1 := bw_pick X (is ++ js) h
  rw [List.filterMap_append] at h1
  rw [← List.append_assoc]
  exact h1.append_right tl
theorem bw_pickT2 {α : Type} {A B Y tl : List α} (n : Nat) (is js : List Nat) (X : List α) (hX : X ++ tl = Y) (hl : X.length = n) (hA : is.filterMap (fun i => X[i]?) ++ tl = A) (hB : js.filterMap (fun i => X[i]?) = B) (h : (is ++ js).Perm (List.range n)) : (A ++ B).Perm Y := by
  subst hl; subst hA; subst hB; subst hX
  have h1 := bw_pick X (is ++ js) h
  rw [List.filterMap_append] at h1
  rw [List.append_assoc]
  refine (List.Perm.append_left _ List.perm_append_comm).trans ?_
  rw [← List.append_assoc]
  exact h1.append_right tl
theorem bw_pickT3 {α : Type} {tl Y : List α} (n : Nat) (is : List Nat) (R W X : List α) (hl : (R ++ W).length = n) (hX : is.filterMap (fun i => (R ++ W)[i]?) = X) (h : is.Perm (List.range n)) (hY : X ++ tl = Y := by rfl) : Y.Perm ((R ++ tl) ++ W) := by
  subst hl; subst hX; subst hY
  have h1 := bw_pick (R ++ W) is h
  refine (h1.append_right tl).trans ?_
  rw [List.append_assoc, List.append_assoc]
  exact List.Perm.append_left _ List.perm_append_comm
theorem bw_pickT4 {α : Type} {tl Y Z : List α} (n : Nat) (is : List Nat) (R W X : List α) (hl : (R ++ W).length = n) (hX : is.filterMap (fun i => (R ++ W)[i]?) = X) (h : is.Perm (List.range n)) (hY : X ++ tl = Y := by rfl) (hZ : W ++ tl = Z := by rfl) : Y.Perm (R ++ Z) := by
  subst hl; subst hX; subst hY; subst hZ
  have h1 := bw_pick (R ++ W) is h
  refine (h1.append_right tl).trans ?_
  rw [List.append_assoc]
section BWK
variable {l : Launch} {g : bwG} {cc : ByteArray} {nL : Nat} {own nm : String} {ret : Option FieldType} {rm : Room} {PX : State → Array Value → (Nat → Prop) → Prop} {Zf : State → Array Value → List Frame → (Nat → Prop) → State → Prop} {pc : Nat} {lv : List (Nat × Value)} {st : List Value} {ws : va_W} {kc ks : Nat}
theorem bw_gf {C0 : String} {T : u_T} {N ci : Nat} {ty0 : Nat → FieldType} (hK : bwK C0 T N ci ty0) (q0 f : Nat) {index a : Nat} {fs : List Value} {v : Value} (hf : f < N) (hlink : Cond.fieldLink own index (T f).1 (T f).2.1 (T f).2.2.1 ∈ bw_all) (he : ws[q0]? = some (a, .inr (ci, fs))) (hv : fs[f]? = some v) (hd : decode cc pc = .ok (.getfield index, 3)) (k : bwR l g cc nL own nm ret rm PX Zf (pc + 3) lv (v :: st) ws kc ks) : bwR l g cc nL own nm ret rm PX Zf pc lv (.ref a :: st) ws kc ks :=
  bw_get C0 T N ci q0 f hK.1 hK.2.1 hf hlink he hv hd k
theorem bw_pf {C0 : String} {T : u_T} {N ci : Nat} {ty0 : Nat → FieldType} (hK : bwK C0 T N ci ty0) (q0 f : Nat) {index a : Nat} {fs : List Value} {v : Value} {ty : FieldType} (ws1 : va_W) (hf : f < N) (hlink : Cond.fieldLink own index (T f).1 (T f).2.1 (T f).2.2.1 ∈ bw_all) (hfin : (T f).2.2.2 = false) (hty : ty0 f = ty) (hna : narrow ty v = v) (hfi : fits ty v = true) (he : ws[q0]? = some (a, .inr (ci, fs))) (hl0 : f < fs.length) (hw : ws.set q0 (a, .inr (ci, fs.set f v)) = ws1) (hd : decode cc pc = .ok (.putfield index, 3)) (k : bwR l g cc nL own nm ret rm PX Zf (pc + 3) lv st ws1 kc ks) : bwR l g cc nL own nm ret rm PX Zf pc lv (v :: .ref a :: st) ws kc ks :=
  bw_put C0 T N ci q0 f ws1 ty0 hK.2.2.1 hK.2.2.2 hK.1 hK.2.1 hf hlink hfin (by rw [hK.2.2.1 f hf, hty]) hna hfi he hl0 hw hd k
end BWK
end
section
theorem bw_out3_0 {x : Int32} (h0 : ¬ x = 0) (h1 : ¬ x = 1) (h2 : ¬ x = 2) : x.toInt < 0 ∨ 2 < x.toInt := by
  have e0 : ¬ x.toInt = 0 := lv_neT h0 (rfl : (0 : Int32).toInt = 0)
  have e1 : ¬ x.toInt = 1 := lv_neT h1 (rfl : (1 : Int32).toInt = 1)
  have e2 : ¬ x.toInt = 2 := lv_neT h2 (rfl : (2 : Int32).toInt = 2)
  omega
theorem bw_out4_0 {x : Int32} (h0 : ¬ x = 0) (h1 : ¬ x = 1) (h2 : ¬ x = 2) (h3 : ¬ x = 3) : x.toInt < 0 ∨ 3 < x.toInt := by
  have e0 : ¬ x.toInt = 0 := lv_neT h0 (rfl : (0 : Int32).toInt = 0)
  have e1 : ¬ x.toInt = 1 := lv_neT h1 (rfl : (1 : Int32).toInt = 1)
  have e2 : ¬ x.toInt = 2 := lv_neT h2 (rfl : (2 : Int32).toInt = 2)
  have e3 : ¬ x.toInt = 3 := lv_neT h3 (rfl : (3 : Int32).toInt = 3)
  omega
theorem bw_out4_6 {x : Int32} (h0 : ¬ x = 6) (h1 : ¬ x = 7) (h2 : ¬ x = 8) (h3 : ¬ x = 9) : x.toInt < 6 ∨ 9 < x.toInt := by
  have e0 : ¬ x.toInt = 6 := lv_neT h0 (rfl : (6 : Int32).toInt = 6)
  have e1 : ¬ x.toInt = 7 := lv_neT h1 (rfl : (7 : Int32).toInt = 7)
  have e2 : ¬ x.toInt = 8 := lv_neT h2 (rfl : (8 : Int32).toInt = 8)
  have e3 : ¬ x.toInt = 9 := lv_neT h3 (rfl : (9 : Int32).toInt = 9)
  omega
end
section
theorem ar_X5_in : yX5_in.cls ≠ "java/lang/invoke/MethodHandle" ∧ yX5_in.cls ≠ "java/lang/invoke/VarHandle" ∧ (parseMethodDescriptor yX5_in.desc).map (fun d => d.parameters.length) = some 3 := ⟨by decide, by decide, by decide +kernel⟩
def f_X5_in  (p0 : Int64) (p1 : Int64) (p2 : Int64) : Option (Int32) := (if (lg_cmp p0 p1) < 0 then some 0 else (if 0 < (lg_cmp p0 p2) then some 0 else some 1))
set_option maxHeartbeats 4000000 in
set_option maxRecDepth 100000 in
theorem s_X5_in (l : Launch) (g : bwG)   (p0 : Int64) (p1 : Int64) (p2 : Int64) (res : Int32) (hf : f_X5_in  p0 p1 p2 = some res) : bwS l g yX5_in cX5_in 6 (some .boolean) ({ frames := 0, cells := 0, slots := 0, locals := 0 } : Room) [.long p0, .long p1, .long p2] ([]) (fun r w => r = some (.int res) ∧ w = []) := by
  refine bwS_of (by decide) (Nat.le_of_ble_eq_true rfl) ?_
  unfold f_X5_in at hf
  show bwR l g cX5_in 6 RX5 "in" (some .boolean) ({ frames := 0, cells := 0, slots := 0, locals := 0 } : Room) bwT (bwZ g (fun r w => r = some (.int res) ∧ w = []) 0 0) 0 [(0, .long p0), (2, .long p1), (4, .long p2)] [] ([]) 0 0
  refine bw_lload_n 0 dX5_in_0 rfl rfl ?_
  refine bw_lload_n 1 dX5_in_1 rfl rfl ?_
  refine bw_lcmp dX5_in_2 ?_
  refine bw_if_lt 17 dX5_in_3 (by decide) (fun c_3 => ?_) (fun c_3 => ?_)
  · have hf := bw_pos c_3 hf
    refine bw_iconst 0 dX5_in_17 (by decide) ?_
    cases Option.some.inj hf
    exact bw_ret rfl rfl (Nat.le_of_ble_eq_true rfl) (Nat.le_of_ble_eq_true rfl) dX5_in_18 ⟨rfl, rfl⟩
  · have hf := bw_neg c_3 hf
    refine bw_lload_n 0 dX5_in_6 rfl rfl ?_
    refine bw_lload 2 dX5_in_7 rfl ?_
    refine bw_lcmp dX5_in_9 ?_
    refine bw_if_gt 17 dX5_in_10 (by decide) (fun c_4 => ?_) (fun c_4 => ?_)
    · have hf := bw_pos c_4 hf
      refine bw_iconst 0 dX5_in_17 (by decide) ?_
      cases Option.some.inj hf
      exact bw_ret rfl rfl (Nat.le_of_ble_eq_true rfl) (Nat.le_of_ble_eq_true rfl) dX5_in_18 ⟨rfl, rfl⟩
    · have hf := bw_neg c_4 hf
      refine bw_iconst 1 dX5_in_13 (by decide) ?_
      refine bw_goto 18 dX5_in_14 (by decide) ?_
      cases Option.some.inj hf
      exact bw_ret rfl rfl (Nat.le_of_ble_eq_true rfl) (Nat.le_of_ble_eq_true rfl) dX5_in_18 ⟨rfl, rfl⟩
def f_X5_changes_L51 : Nat → (Int32) → (Nat → Int32) → (Nat → Int32) → (Int32) → Option ((Int32) × (Nat → Int32))
  | 0, _, _, _, _ => none
  | fu + 1, vh_historyLong, vh_all, vh_history, x1 => (if 120 ≤ x1 then some ((vh_historyLong + 1), vh_history) else (if bw_in x1 120 then (if bw_in (((120 * vh_historyLong) + x1)) 720 then (f_X5_changes_L51 fu vh_historyLong vh_all ((upd vh_history (Int32.toNatClampNeg (((120 * vh_historyLong) + x1))) ((vh_all (Int32.toNatClampNeg x1))))) ((x1 + 1))) else none) else none))
set_option maxHeartbeats 4000000 in
set_option maxRecDepth 100000 in
theorem s_X5_changes_L51 (l : Launch) (g : bwG) (ah ah_all ah_kept ah_history ah_slots ah_isSaved ah_words ah_left ah_seen ah_text ah_signs ah_pauses : Nat) (fu : Nat) : ∀ (vh_historyLong : Int32) (vh_groups : Int32) (vh_leftLong : Int32) (vh_textLong : Int32) (vh_spot : Int32) (vh_read : Int32) (vh_all : Nat → Int32) (vh_history : Nat → Int32) (x1 : Int32) (res : (Int32) × (Nat → Int32)), f_X5_changes_L51 fu vh_historyLong vh_all vh_history x1 = some res → bwR l g cX5_changes 2 RX5 "changes" none ({ frames := 0, cells := 0, slots := 0, locals := 0 } : Room) bwT (bwZ g (fun r w => r = none ∧ w = [(ah, .inr (5, [.ref ah_all, .ref ah_kept, .ref ah_history, .int res.1, .ref ah_slots, .ref ah_isSaved, .ref ah_words, .int vh_groups, .ref ah_left, .int vh_leftLong, .ref ah_seen, .ref ah_text, .int vh_textLong, .int vh_spot, .ref ah_signs, .ref ah_pauses, .int vh_read])), (ah_all, .inl (g.2.1, 120, .inl vh_all)), (ah_history, .inl (g.2.1, 720, .inl res.2))]) 0 0) 51 [(0, .ref ah), (1, .int x1)] [] ([(ah, .inr (5, [.ref ah_all, .ref ah_kept, .ref ah_history, .int vh_historyLong, .ref ah_slots, .ref ah_isSaved, .ref ah_words, .int vh_groups, .ref ah_left, .int vh_leftLong, .ref ah_seen, .ref ah_text, .int vh_textLong, .int vh_spot, .ref ah_signs, .ref ah_pauses, .int vh_read])), (ah_all, .inl (g.2.1, 120, .inl vh_all)), (ah_history, .inl (g.2.1, 720, .inl vh_history))]) 0 0 := by
  induction fu with
  | zero => intro vh_historyLong vh_groups vh_leftLong vh_textLong vh_spot vh_read vh_all vh_history x1 res hf; exact absurd hf (by intro h; cases h)
  | succ fu ih =>
    intro vh_historyLong vh_groups vh_leftLong vh_textLong vh_spot vh_read vh_all vh_history x1 res hf
    rw [f_X5_changes_L51] at hf
    refine bw_iload_n 1 dX5_changes_51 rfl rfl ?_
    refine bw_bipush 120 dX5_changes_52 (by decide) ?_
    refine bw_icmp_ge 83 dX5_changes_54 (by decide) (fun c_8 => ?_) (fun c_8 => ?_)
    · have hf := bw_pos c_8 hf
      refine bw_aload_n 0 dX5_changes_83 rfl rfl ?_
      refine bw_dup dX5_changes_84 rfl ?_
      refine bw_gf bkX5 0 3 (by decide) fl_X5_43 rfl rfl dX5_changes_85 ?_
      refine bw_iconst 1 dX5_changes_88 (by decide) ?_
      refine bw_iadd dX5_changes_89 ?_
      refine bw_pf bkX5 0 3 ([(ah, .inr (5, [.ref ah_all, .ref ah_kept, .ref ah_history, .int ((vh_historyLong + 1)), .ref ah_slots, .ref ah_isSaved, .ref ah_words, .int vh_groups, .ref ah_left, .int vh_leftLong, .ref ah_seen, .ref ah_text, .int vh_textLong, .int vh_spot, .ref ah_signs, .ref ah_pauses, .int vh_read])), (ah_all, .inl (g.2.1, 120, .inl vh_all)), (ah_history, .inl (g.2.1, 720, .inl vh_history))]) (by decide) fl_X5_43 rfl rfl rfl rfl rfl (Nat.le_of_ble_eq_true rfl) rfl dX5_changes_90 ?_
      cases Option.some.inj hf
      exact bw_vret rfl (Nat.le_of_ble_eq_true rfl) (Nat.le_of_ble_eq_true rfl) dX5_changes_93 ⟨rfl, rfl⟩
    · have hf := bw_neg c_8 hf
      refine bw_aload_n 0 dX5_changes_57 rfl rfl ?_
      refine bw_gf bkX5 0 2 (by decide) fl_X5_16 rfl rfl dX5_changes_58 ?_
      refine bw_bipush 120 dX5_changes_61 (by decide) ?_
      refine bw_aload_n 0 dX5_changes_63 rfl rfl ?_
      refine bw_gf bkX5 0 3 (by decide) fl_X5_43 rfl rfl dX5_changes_64 ?_
      refine bw_imul dX5_changes_67 ?_
      refine bw_iload_n 1 dX5_changes_68 rfl rfl ?_
      refine bw_iadd dX5_changes_69 ?_
      refine bw_aload_n 0 dX5_changes_70 rfl rfl ?_
      refine bw_gf bkX5 0 0 (by decide) fl_X5_7 rfl rfl dX5_changes_71 ?_
      refine bw_iload_n 1 dX5_changes_74 rfl rfl ?_
      obtain ⟨h_9, hf⟩ := bw_chk hf
      refine bw_iald 1 rfl h_9 dX5_changes_75 ?_
      obtain ⟨h_10, hf⟩ := bw_chk hf
      refine bw_iast 2 ([(ah, .inr (5, [.ref ah_all, .ref ah_kept, .ref ah_history, .int vh_historyLong, .ref ah_slots, .ref ah_isSaved, .ref ah_words, .int vh_groups, .ref ah_left, .int vh_leftLong, .ref ah_seen, .ref ah_text, .int vh_textLong, .int vh_spot, .ref ah_signs, .ref ah_pauses, .int vh_read])), (ah_all, .inl (g.2.1, 120, .inl vh_all)), (ah_history, .inl (g.2.1, 720, .inl ((upd vh_history (Int32.toNatClampNeg (((120 * vh_historyLong) + x1))) ((vh_all (Int32.toNatClampNeg x1)))))))]) rfl h_10 rfl dX5_changes_76 ?_
      refine bw_iinc 1 (x1 + 1) [(1, .int ((x1 + 1))), (0, .ref ah)] dX5_changes_77 rfl rfl (by decide) rfl ?_
      refine bw_goto 51 dX5_changes_80 (by decide) ?_
      refine bw_lv [1, 0] rfl ?_
      exact ih vh_historyLong vh_groups vh_leftLong vh_textLong vh_spot vh_read vh_all ((upd vh_history (Int32.toNatClampNeg (((120 * vh_historyLong) + x1))) ((vh_all (Int32.toNatClampNeg x1))))) ((x1 + 1)) _ hf
def f_X5_changes_L11 : Nat → (Int32) → (Nat → Int32) → (Nat → Int32) → (Int32) → Option ((Int32) × (Nat → Int32))
  | 0, _, _, _, _ => none
  | fu + 1, vh_historyLong, vh_all, vh_history, x1 => (if 600 ≤ x1 then (f_X5_changes_L51 bw_F ((vh_historyLong - 1)) vh_all vh_history 0) else (if bw_in ((x1 + 120)) 720 then (if bw_in x1 720 then (f_X5_changes_L11 fu vh_historyLong vh_all ((upd vh_history (Int32.toNatClampNeg x1) ((vh_history (Int32.toNatClampNeg ((x1 + 120))))))) ((x1 + 1))) else none) else none))
set_option maxHeartbeats 4000000 in
set_option maxRecDepth 100000 in
theorem s_X5_changes_L11 (l : Launch) (g : bwG) (ah ah_all ah_kept ah_history ah_slots ah_isSaved ah_words ah_left ah_seen ah_text ah_signs ah_pauses : Nat) (fu : Nat) : ∀ (vh_historyLong : Int32) (vh_groups : Int32) (vh_leftLong : Int32) (vh_textLong : Int32) (vh_spot : Int32) (vh_read : Int32) (vh_all : Nat → Int32) (vh_history : Nat → Int32) (x1 : Int32) (res : (Int32) × (Nat → Int32)), f_X5_changes_L11 fu vh_historyLong vh_all vh_history x1 = some res → bwR l g cX5_changes 2 RX5 "changes" none ({ frames := 0, cells := 0, slots := 0, locals := 0 } : Room) bwT (bwZ g (fun r w => r = none ∧ w = [(ah, .inr (5, [.ref ah_all, .ref ah_kept, .ref ah_history, .int res.1, .ref ah_slots, .ref ah_isSaved, .ref ah_words, .int vh_groups, .ref ah_left, .int vh_leftLong, .ref ah_seen, .ref ah_text, .int vh_textLong, .int vh_spot, .ref ah_signs, .ref ah_pauses, .int vh_read])), (ah_all, .inl (g.2.1, 120, .inl vh_all)), (ah_history, .inl (g.2.1, 720, .inl res.2))]) 0 0) 11 [(0, .ref ah), (1, .int x1)] [] ([(ah, .inr (5, [.ref ah_all, .ref ah_kept, .ref ah_history, .int vh_historyLong, .ref ah_slots, .ref ah_isSaved, .ref ah_words, .int vh_groups, .ref ah_left, .int vh_leftLong, .ref ah_seen, .ref ah_text, .int vh_textLong, .int vh_spot, .ref ah_signs, .ref ah_pauses, .int vh_read])), (ah_all, .inl (g.2.1, 120, .inl vh_all)), (ah_history, .inl (g.2.1, 720, .inl vh_history))]) 0 0 := by
  induction fu with
  | zero => intro vh_historyLong vh_groups vh_leftLong vh_textLong vh_spot vh_read vh_all vh_history x1 res hf; exact absurd hf (by intro h; cases h)
  | succ fu ih =>
    intro vh_historyLong vh_groups vh_leftLong vh_textLong vh_spot vh_read vh_all vh_history x1 res hf
    rw [f_X5_changes_L11] at hf
    refine bw_iload_n 1 dX5_changes_11 rfl rfl ?_
    refine bw_sipush 600 dX5_changes_12 (by decide) ?_
    refine bw_icmp_ge 39 dX5_changes_15 (by decide) (fun c_11 => ?_) (fun c_11 => ?_)
    · have hf := bw_pos c_11 hf
      refine bw_aload_n 0 dX5_changes_39 rfl rfl ?_
      refine bw_dup dX5_changes_40 rfl ?_
      refine bw_gf bkX5 0 3 (by decide) fl_X5_43 rfl rfl dX5_changes_41 ?_
      refine bw_iconst 1 dX5_changes_44 (by decide) ?_
      refine bw_isub dX5_changes_45 ?_
      refine bw_pf bkX5 0 3 ([(ah, .inr (5, [.ref ah_all, .ref ah_kept, .ref ah_history, .int ((vh_historyLong - 1)), .ref ah_slots, .ref ah_isSaved, .ref ah_words, .int vh_groups, .ref ah_left, .int vh_leftLong, .ref ah_seen, .ref ah_text, .int vh_textLong, .int vh_spot, .ref ah_signs, .ref ah_pauses, .int vh_read])), (ah_all, .inl (g.2.1, 120, .inl vh_all)), (ah_history, .inl (g.2.1, 720, .inl vh_history))]) (by decide) fl_X5_43 rfl rfl rfl rfl rfl (Nat.le_of_ble_eq_true rfl) rfl dX5_changes_46 ?_
      refine bw_iconst 0 dX5_changes_49 (by decide) ?_
      refine bw_istore_n [(1, .int 0), (0, .ref ah)] dX5_changes_50 rfl (by decide) rfl ?_
      refine bw_lv [1, 0] rfl ?_
      exact s_X5_changes_L51 l g ah ah_all ah_kept ah_history ah_slots ah_isSaved ah_words ah_left ah_seen ah_text ah_signs ah_pauses bw_F ((vh_historyLong - 1)) vh_groups vh_leftLong vh_textLong vh_spot vh_read vh_all vh_history 0 _ hf
    · have hf := bw_neg c_11 hf
      refine bw_aload_n 0 dX5_changes_18 rfl rfl ?_
      refine bw_gf bkX5 0 2 (by decide) fl_X5_16 rfl rfl dX5_changes_19 ?_
      refine bw_iload_n 1 dX5_changes_22 rfl rfl ?_
      refine bw_aload_n 0 dX5_changes_23 rfl rfl ?_
      refine bw_gf bkX5 0 2 (by decide) fl_X5_16 rfl rfl dX5_changes_24 ?_
      refine bw_iload_n 1 dX5_changes_27 rfl rfl ?_
      refine bw_bipush 120 dX5_changes_28 (by decide) ?_
      refine bw_iadd dX5_changes_30 ?_
      obtain ⟨h_12, hf⟩ := bw_chk hf
      refine bw_iald 2 rfl h_12 dX5_changes_31 ?_
      obtain ⟨h_13, hf⟩ := bw_chk hf
      refine bw_iast 2 ([(ah, .inr (5, [.ref ah_all, .ref ah_kept, .ref ah_history, .int vh_historyLong, .ref ah_slots, .ref ah_isSaved, .ref ah_words, .int vh_groups, .ref ah_left, .int vh_leftLong, .ref ah_seen, .ref ah_text, .int vh_textLong, .int vh_spot, .ref ah_signs, .ref ah_pauses, .int vh_read])), (ah_all, .inl (g.2.1, 120, .inl vh_all)), (ah_history, .inl (g.2.1, 720, .inl ((upd vh_history (Int32.toNatClampNeg x1) ((vh_history (Int32.toNatClampNeg ((x1 + 120)))))))))]) rfl h_13 rfl dX5_changes_32 ?_
      refine bw_iinc 1 (x1 + 1) [(1, .int ((x1 + 1))), (0, .ref ah)] dX5_changes_33 rfl rfl (by decide) rfl ?_
      refine bw_goto 11 dX5_changes_36 (by decide) ?_
      refine bw_lv [1, 0] rfl ?_
      exact ih vh_historyLong vh_groups vh_leftLong vh_textLong vh_spot vh_read vh_all ((upd vh_history (Int32.toNatClampNeg x1) ((vh_history (Int32.toNatClampNeg ((x1 + 120))))))) ((x1 + 1)) _ hf
theorem ar_X5_changes : yX5_changes.cls ≠ "java/lang/invoke/MethodHandle" ∧ yX5_changes.cls ≠ "java/lang/invoke/VarHandle" ∧ (parseMethodDescriptor yX5_changes.desc).map (fun d => d.parameters.length) = some 0 := ⟨by decide, by decide, by decide +kernel⟩
def f_X5_changes (vh_historyLong : Int32) (vh_all : Nat → Int32) (vh_history : Nat → Int32)  : Option ((Int32) × (Nat → Int32)) := (if vh_historyLong = 6 then (f_X5_changes_L11 bw_F vh_historyLong vh_all vh_history 0) else (f_X5_changes_L51 bw_F vh_historyLong vh_all vh_history 0))
set_option maxHeartbeats 4000000 in
set_option maxRecDepth 100000 in
theorem s_X5_changes (l : Launch) (g : bwG) (ah ah_all ah_kept ah_history ah_slots ah_isSaved ah_words ah_left ah_seen ah_text ah_signs ah_pauses : Nat) (vh_historyLong : Int32) (vh_groups : Int32) (vh_leftLong : Int32) (vh_textLong : Int32) (vh_spot : Int32) (vh_read : Int32) (vh_all : Nat → Int32) (vh_history : Nat → Int32)  (res : (Int32) × (Nat → Int32)) (hf : f_X5_changes vh_historyLong vh_all vh_history  = some res) : bwS l g yX5_changes cX5_changes 2 none ({ frames := 0, cells := 0, slots := 0, locals := 0 } : Room) [.ref ah] ([(ah, .inr (5, [.ref ah_all, .ref ah_kept, .ref ah_history, .int vh_historyLong, .ref ah_slots, .ref ah_isSaved, .ref ah_words, .int vh_groups, .ref ah_left, .int vh_leftLong, .ref ah_seen, .ref ah_text, .int vh_textLong, .int vh_spot, .ref ah_signs, .ref ah_pauses, .int vh_read])), (ah_all, .inl (g.2.1, 120, .inl vh_all)), (ah_history, .inl (g.2.1, 720, .inl vh_history))]) (fun r w => r = none ∧ w = [(ah, .inr (5, [.ref ah_all, .ref ah_kept, .ref ah_history, .int res.1, .ref ah_slots, .ref ah_isSaved, .ref ah_words, .int vh_groups, .ref ah_left, .int vh_leftLong, .ref ah_seen, .ref ah_text, .int vh_textLong, .int vh_spot, .ref ah_signs, .ref ah_pauses, .int vh_read])), (ah_all, .inl (g.2.1, 120, .inl vh_all)), (ah_history, .inl (g.2.1, 720, .inl res.2))]) := by
  refine bwS_of (by decide) (Nat.le_of_ble_eq_true rfl) ?_
  unfold f_X5_changes at hf
  show bwR l g cX5_changes 2 RX5 "changes" none ({ frames := 0, cells := 0, slots := 0, locals := 0 } : Room) bwT (bwZ g (fun r w => r = none ∧ w = [(ah, .inr (5, [.ref ah_all, .ref ah_kept, .ref ah_history, .int res.1, .ref ah_slots, .ref ah_isSaved, .ref ah_words, .int vh_groups, .ref ah_left, .int vh_leftLong, .ref ah_seen, .ref ah_text, .int vh_textLong, .int vh_spot, .ref ah_signs, .ref ah_pauses, .int vh_read])), (ah_all, .inl (g.2.1, 120, .inl vh_all)), (ah_history, .inl (g.2.1, 720, .inl res.2))]) 0 0) 0 [(0, .ref ah)] [] ([(ah, .inr (5, [.ref ah_all, .ref ah_kept, .ref ah_history, .int vh_historyLong, .ref ah_slots, .ref ah_isSaved, .ref ah_words, .int vh_groups, .ref ah_left, .int vh_leftLong, .ref ah_seen, .ref ah_text, .int vh_textLong, .int vh_spot, .ref ah_signs, .ref ah_pauses, .int vh_read])), (ah_all, .inl (g.2.1, 120, .inl vh_all)), (ah_history, .inl (g.2.1, 720, .inl vh_history))]) 0 0
  refine bw_aload_n 0 dX5_changes_0 rfl rfl ?_
  refine bw_gf bkX5 0 3 (by decide) fl_X5_43 rfl rfl dX5_changes_1 ?_
  refine bw_bipush 6 dX5_changes_4 (by decide) ?_
  refine bw_icmp_ne 49 dX5_changes_6 (by decide) (fun c_14 => ?_) (fun c_14 => ?_)
  · have hf := bw_neg c_14 hf
    refine bw_iconst 0 dX5_changes_49 (by decide) ?_
    refine bw_istore_n [(1, .int 0), (0, .ref ah)] dX5_changes_50 rfl (by decide) rfl ?_
    refine bw_lv [1, 0] rfl ?_
    exact s_X5_changes_L51 l g ah ah_all ah_kept ah_history ah_slots ah_isSaved ah_words ah_left ah_seen ah_text ah_signs ah_pauses bw_F vh_historyLong vh_groups vh_leftLong vh_textLong vh_spot vh_read vh_all vh_history 0 _ hf
  · have hf := bw_pos c_14 hf
    refine bw_iconst 0 dX5_changes_9 (by decide) ?_
    refine bw_istore_n [(1, .int 0), (0, .ref ah)] dX5_changes_10 rfl (by decide) rfl ?_
    refine bw_lv [1, 0] rfl ?_
    exact s_X5_changes_L11 l g ah ah_all ah_kept ah_history ah_slots ah_isSaved ah_words ah_left ah_seen ah_text ah_signs ah_pauses bw_F vh_historyLong vh_groups vh_leftLong vh_textLong vh_spot vh_read vh_all vh_history 0 _ hf
def f_X5_keeps_L2 : Nat → (Nat → Int32) → (Nat → Int32) → (Int32) → Option ((Nat → Int32))
  | 0, _, _, _ => none
  | fu + 1, vh_all, vh_kept, x1 => (if 120 ≤ x1 then some vh_kept else (if bw_in x1 120 then (if bw_in x1 120 then (f_X5_keeps_L2 fu vh_all ((upd vh_kept (Int32.toNatClampNeg x1) ((vh_all (Int32.toNatClampNeg x1))))) ((x1 + 1))) else none) else none))
set_option maxHeartbeats 4000000 in
set_option maxRecDepth 100000 in
theorem s_X5_keeps_L2 (l : Launch) (g : bwG) (ah ah_all ah_kept ah_history ah_slots ah_isSaved ah_words ah_left ah_seen ah_text ah_signs ah_pauses : Nat) (fu : Nat) : ∀ (vh_historyLong : Int32) (vh_groups : Int32) (vh_leftLong : Int32) (vh_textLong : Int32) (vh_spot : Int32) (vh_read : Int32) (vh_all : Nat → Int32) (vh_kept : Nat → Int32) (x1 : Int32) (res : (Nat → Int32)), f_X5_keeps_L2 fu vh_all vh_kept x1 = some res → bwR l g cX5_keeps 2 RX5 "keeps" none ({ frames := 0, cells := 0, slots := 0, locals := 0 } : Room) bwT (bwZ g (fun r w => r = none ∧ w = [(ah, .inr (5, [.ref ah_all, .ref ah_kept, .ref ah_history, .int vh_historyLong, .ref ah_slots, .ref ah_isSaved, .ref ah_words, .int vh_groups, .ref ah_left, .int vh_leftLong, .ref ah_seen, .ref ah_text, .int vh_textLong, .int vh_spot, .ref ah_signs, .ref ah_pauses, .int vh_read])), (ah_all, .inl (g.2.1, 120, .inl vh_all)), (ah_kept, .inl (g.2.1, 120, .inl res))]) 0 0) 2 [(0, .ref ah), (1, .int x1)] [] ([(ah, .inr (5, [.ref ah_all, .ref ah_kept, .ref ah_history, .int vh_historyLong, .ref ah_slots, .ref ah_isSaved, .ref ah_words, .int vh_groups, .ref ah_left, .int vh_leftLong, .ref ah_seen, .ref ah_text, .int vh_textLong, .int vh_spot, .ref ah_signs, .ref ah_pauses, .int vh_read])), (ah_all, .inl (g.2.1, 120, .inl vh_all)), (ah_kept, .inl (g.2.1, 120, .inl vh_kept))]) 0 0 := by
  induction fu with
  | zero => intro vh_historyLong vh_groups vh_leftLong vh_textLong vh_spot vh_read vh_all vh_kept x1 res hf; exact absurd hf (by intro h; cases h)
  | succ fu ih =>
    intro vh_historyLong vh_groups vh_leftLong vh_textLong vh_spot vh_read vh_all vh_kept x1 res hf
    rw [f_X5_keeps_L2] at hf
    refine bw_iload_n 1 dX5_keeps_2 rfl rfl ?_
    refine bw_bipush 120 dX5_keeps_3 (by decide) ?_
    refine bw_icmp_ge 26 dX5_keeps_5 (by decide) (fun c_4 => ?_) (fun c_4 => ?_)
    · have hf := bw_pos c_4 hf
      cases Option.some.inj hf
      exact bw_vret rfl (Nat.le_of_ble_eq_true rfl) (Nat.le_of_ble_eq_true rfl) dX5_keeps_26 ⟨rfl, rfl⟩
    · have hf := bw_neg c_4 hf
      refine bw_aload_n 0 dX5_keeps_8 rfl rfl ?_
      refine bw_gf bkX5 0 1 (by decide) fl_X5_13 rfl rfl dX5_keeps_9 ?_
      refine bw_iload_n 1 dX5_keeps_12 rfl rfl ?_
      refine bw_aload_n 0 dX5_keeps_13 rfl rfl ?_
      refine bw_gf bkX5 0 0 (by decide) fl_X5_7 rfl rfl dX5_keeps_14 ?_
      refine bw_iload_n 1 dX5_keeps_17 rfl rfl ?_
      obtain ⟨h_5, hf⟩ := bw_chk hf
      refine bw_iald 1 rfl h_5 dX5_keeps_18 ?_
      obtain ⟨h_6, hf⟩ := bw_chk hf
      refine bw_iast 2 ([(ah, .inr (5, [.ref ah_all, .ref ah_kept, .ref ah_history, .int vh_historyLong, .ref ah_slots, .ref ah_isSaved, .ref ah_words, .int vh_groups, .ref ah_left, .int vh_leftLong, .ref ah_seen, .ref ah_text, .int vh_textLong, .int vh_spot, .ref ah_signs, .ref ah_pauses, .int vh_read])), (ah_all, .inl (g.2.1, 120, .inl vh_all)), (ah_kept, .inl (g.2.1, 120, .inl ((upd vh_kept (Int32.toNatClampNeg x1) ((vh_all (Int32.toNatClampNeg x1)))))))]) rfl h_6 rfl dX5_keeps_19 ?_
      refine bw_iinc 1 (x1 + 1) [(1, .int ((x1 + 1))), (0, .ref ah)] dX5_keeps_20 rfl rfl (by decide) rfl ?_
      refine bw_goto 2 dX5_keeps_23 (by decide) ?_
      refine bw_lv [1, 0] rfl ?_
      exact ih vh_historyLong vh_groups vh_leftLong vh_textLong vh_spot vh_read vh_all ((upd vh_kept (Int32.toNatClampNeg x1) ((vh_all (Int32.toNatClampNeg x1))))) ((x1 + 1)) _ hf
theorem ar_X5_keeps : yX5_keeps.cls ≠ "java/lang/invoke/MethodHandle" ∧ yX5_keeps.cls ≠ "java/lang/invoke/VarHandle" ∧ (parseMethodDescriptor yX5_keeps.desc).map (fun d => d.parameters.length) = some 0 := ⟨by decide, by decide, by decide +kernel⟩
def f_X5_keeps (vh_all : Nat → Int32) (vh_kept : Nat → Int32)  : Option ((Nat → Int32)) := (f_X5_keeps_L2 bw_F vh_all vh_kept 0)
set_option maxHeartbeats 4000000 in
set_option maxRecDepth 100000 in
theorem s_X5_keeps (l : Launch) (g : bwG) (ah ah_all ah_kept ah_history ah_slots ah_isSaved ah_words ah_left ah_seen ah_text ah_signs ah_pauses : Nat) (vh_historyLong : Int32) (vh_groups : Int32) (vh_leftLong : Int32) (vh_textLong : Int32) (vh_spot : Int32) (vh_read : Int32) (vh_all : Nat → Int32) (vh_kept : Nat → Int32)  (res : (Nat → Int32)) (hf : f_X5_keeps vh_all vh_kept  = some res) : bwS l g yX5_keeps cX5_keeps 2 none ({ frames := 0, cells := 0, slots := 0, locals := 0 } : Room) [.ref ah] ([(ah, .inr (5, [.ref ah_all, .ref ah_kept, .ref ah_history, .int vh_historyLong, .ref ah_slots, .ref ah_isSaved, .ref ah_words, .int vh_groups, .ref ah_left, .int vh_leftLong, .ref ah_seen, .ref ah_text, .int vh_textLong, .int vh_spot, .ref ah_signs, .ref ah_pauses, .int vh_read])), (ah_all, .inl (g.2.1, 120, .inl vh_all)), (ah_kept, .inl (g.2.1, 120, .inl vh_kept))]) (fun r w => r = none ∧ w = [(ah, .inr (5, [.ref ah_all, .ref ah_kept, .ref ah_history, .int vh_historyLong, .ref ah_slots, .ref ah_isSaved, .ref ah_words, .int vh_groups, .ref ah_left, .int vh_leftLong, .ref ah_seen, .ref ah_text, .int vh_textLong, .int vh_spot, .ref ah_signs, .ref ah_pauses, .int vh_read])), (ah_all, .inl (g.2.1, 120, .inl vh_all)), (ah_kept, .inl (g.2.1, 120, .inl res))]) := by
  refine bwS_of (by decide) (Nat.le_of_ble_eq_true rfl) ?_
  unfold f_X5_keeps at hf
  show bwR l g cX5_keeps 2 RX5 "keeps" none ({ frames := 0, cells := 0, slots := 0, locals := 0 } : Room) bwT (bwZ g (fun r w => r = none ∧ w = [(ah, .inr (5, [.ref ah_all, .ref ah_kept, .ref ah_history, .int vh_historyLong, .ref ah_slots, .ref ah_isSaved, .ref ah_words, .int vh_groups, .ref ah_left, .int vh_leftLong, .ref ah_seen, .ref ah_text, .int vh_textLong, .int vh_spot, .ref ah_signs, .ref ah_pauses, .int vh_read])), (ah_all, .inl (g.2.1, 120, .inl vh_all)), (ah_kept, .inl (g.2.1, 120, .inl res))]) 0 0) 0 [(0, .ref ah)] [] ([(ah, .inr (5, [.ref ah_all, .ref ah_kept, .ref ah_history, .int vh_historyLong, .ref ah_slots, .ref ah_isSaved, .ref ah_words, .int vh_groups, .ref ah_left, .int vh_leftLong, .ref ah_seen, .ref ah_text, .int vh_textLong, .int vh_spot, .ref ah_signs, .ref ah_pauses, .int vh_read])), (ah_all, .inl (g.2.1, 120, .inl vh_all)), (ah_kept, .inl (g.2.1, 120, .inl vh_kept))]) 0 0
  refine bw_iconst 0 dX5_keeps_0 (by decide) ?_
  refine bw_istore_n [(1, .int 0), (0, .ref ah)] dX5_keeps_1 rfl (by decide) rfl ?_
  refine bw_lv [1, 0] rfl ?_
  exact s_X5_keeps_L2 l g ah ah_all ah_kept ah_history ah_slots ah_isSaved ah_words ah_left ah_seen ah_text ah_signs ah_pauses bw_F vh_historyLong vh_groups vh_leftLong vh_textLong vh_spot vh_read vh_all vh_kept 0 _ hf
def f_X5_comesBack_L2 : Nat → (Nat → Int32) → (Nat → Int32) → (Int32) → Option ((Nat → Int32))
  | 0, _, _, _ => none
  | fu + 1, vh_all, vh_kept, x1 => (if 120 ≤ x1 then some vh_all else (if bw_in x1 120 then (if bw_in x1 120 then (f_X5_comesBack_L2 fu ((upd vh_all (Int32.toNatClampNeg x1) ((vh_kept (Int32.toNatClampNeg x1))))) vh_kept ((x1 + 1))) else none) else none))
set_option maxHeartbeats 4000000 in
set_option maxRecDepth 100000 in
theorem s_X5_comesBack_L2 (l : Launch) (g : bwG) (ah ah_all ah_kept ah_history ah_slots ah_isSaved ah_words ah_left ah_seen ah_text ah_signs ah_pauses : Nat) (fu : Nat) : ∀ (vh_historyLong : Int32) (vh_groups : Int32) (vh_leftLong : Int32) (vh_textLong : Int32) (vh_spot : Int32) (vh_read : Int32) (vh_all : Nat → Int32) (vh_kept : Nat → Int32) (x1 : Int32) (res : (Nat → Int32)), f_X5_comesBack_L2 fu vh_all vh_kept x1 = some res → bwR l g cX5_comesBack 2 RX5 "comesBack" none ({ frames := 0, cells := 0, slots := 0, locals := 0 } : Room) bwT (bwZ g (fun r w => r = none ∧ w = [(ah, .inr (5, [.ref ah_all, .ref ah_kept, .ref ah_history, .int vh_historyLong, .ref ah_slots, .ref ah_isSaved, .ref ah_words, .int vh_groups, .ref ah_left, .int vh_leftLong, .ref ah_seen, .ref ah_text, .int vh_textLong, .int vh_spot, .ref ah_signs, .ref ah_pauses, .int vh_read])), (ah_all, .inl (g.2.1, 120, .inl res)), (ah_kept, .inl (g.2.1, 120, .inl vh_kept))]) 0 0) 2 [(0, .ref ah), (1, .int x1)] [] ([(ah, .inr (5, [.ref ah_all, .ref ah_kept, .ref ah_history, .int vh_historyLong, .ref ah_slots, .ref ah_isSaved, .ref ah_words, .int vh_groups, .ref ah_left, .int vh_leftLong, .ref ah_seen, .ref ah_text, .int vh_textLong, .int vh_spot, .ref ah_signs, .ref ah_pauses, .int vh_read])), (ah_all, .inl (g.2.1, 120, .inl vh_all)), (ah_kept, .inl (g.2.1, 120, .inl vh_kept))]) 0 0 := by
  induction fu with
  | zero => intro vh_historyLong vh_groups vh_leftLong vh_textLong vh_spot vh_read vh_all vh_kept x1 res hf; exact absurd hf (by intro h; cases h)
  | succ fu ih =>
    intro vh_historyLong vh_groups vh_leftLong vh_textLong vh_spot vh_read vh_all vh_kept x1 res hf
    rw [f_X5_comesBack_L2] at hf
    refine bw_iload_n 1 dX5_comesBack_2 rfl rfl ?_
    refine bw_bipush 120 dX5_comesBack_3 (by decide) ?_
    refine bw_icmp_ge 26 dX5_comesBack_5 (by decide) (fun c_4 => ?_) (fun c_4 => ?_)
    · have hf := bw_pos c_4 hf
      cases Option.some.inj hf
      exact bw_vret rfl (Nat.le_of_ble_eq_true rfl) (Nat.le_of_ble_eq_true rfl) dX5_comesBack_26 ⟨rfl, rfl⟩
    · have hf := bw_neg c_4 hf
      refine bw_aload_n 0 dX5_comesBack_8 rfl rfl ?_
      refine bw_gf bkX5 0 0 (by decide) fl_X5_7 rfl rfl dX5_comesBack_9 ?_
      refine bw_iload_n 1 dX5_comesBack_12 rfl rfl ?_
      refine bw_aload_n 0 dX5_comesBack_13 rfl rfl ?_
      refine bw_gf bkX5 0 1 (by decide) fl_X5_13 rfl rfl dX5_comesBack_14 ?_
      refine bw_iload_n 1 dX5_comesBack_17 rfl rfl ?_
      obtain ⟨h_5, hf⟩ := bw_chk hf
      refine bw_iald 2 rfl h_5 dX5_comesBack_18 ?_
      obtain ⟨h_6, hf⟩ := bw_chk hf
      refine bw_iast 1 ([(ah, .inr (5, [.ref ah_all, .ref ah_kept, .ref ah_history, .int vh_historyLong, .ref ah_slots, .ref ah_isSaved, .ref ah_words, .int vh_groups, .ref ah_left, .int vh_leftLong, .ref ah_seen, .ref ah_text, .int vh_textLong, .int vh_spot, .ref ah_signs, .ref ah_pauses, .int vh_read])), (ah_all, .inl (g.2.1, 120, .inl ((upd vh_all (Int32.toNatClampNeg x1) ((vh_kept (Int32.toNatClampNeg x1))))))), (ah_kept, .inl (g.2.1, 120, .inl vh_kept))]) rfl h_6 rfl dX5_comesBack_19 ?_
      refine bw_iinc 1 (x1 + 1) [(1, .int ((x1 + 1))), (0, .ref ah)] dX5_comesBack_20 rfl rfl (by decide) rfl ?_
      refine bw_goto 2 dX5_comesBack_23 (by decide) ?_
      refine bw_lv [1, 0] rfl ?_
      exact ih vh_historyLong vh_groups vh_leftLong vh_textLong vh_spot vh_read ((upd vh_all (Int32.toNatClampNeg x1) ((vh_kept (Int32.toNatClampNeg x1))))) vh_kept ((x1 + 1)) _ hf
theorem ar_X5_comesBack : yX5_comesBack.cls ≠ "java/lang/invoke/MethodHandle" ∧ yX5_comesBack.cls ≠ "java/lang/invoke/VarHandle" ∧ (parseMethodDescriptor yX5_comesBack.desc).map (fun d => d.parameters.length) = some 0 := ⟨by decide, by decide, by decide +kernel⟩
def f_X5_comesBack (vh_all : Nat → Int32) (vh_kept : Nat → Int32)  : Option ((Nat → Int32)) := (f_X5_comesBack_L2 bw_F vh_all vh_kept 0)
set_option maxHeartbeats 4000000 in
set_option maxRecDepth 100000 in
theorem s_X5_comesBack (l : Launch) (g : bwG) (ah ah_all ah_kept ah_history ah_slots ah_isSaved ah_words ah_left ah_seen ah_text ah_signs ah_pauses : Nat) (vh_historyLong : Int32) (vh_groups : Int32) (vh_leftLong : Int32) (vh_textLong : Int32) (vh_spot : Int32) (vh_read : Int32) (vh_all : Nat → Int32) (vh_kept : Nat → Int32)  (res : (Nat → Int32)) (hf : f_X5_comesBack vh_all vh_kept  = some res) : bwS l g yX5_comesBack cX5_comesBack 2 none ({ frames := 0, cells := 0, slots := 0, locals := 0 } : Room) [.ref ah] ([(ah, .inr (5, [.ref ah_all, .ref ah_kept, .ref ah_history, .int vh_historyLong, .ref ah_slots, .ref ah_isSaved, .ref ah_words, .int vh_groups, .ref ah_left, .int vh_leftLong, .ref ah_seen, .ref ah_text, .int vh_textLong, .int vh_spot, .ref ah_signs, .ref ah_pauses, .int vh_read])), (ah_all, .inl (g.2.1, 120, .inl vh_all)), (ah_kept, .inl (g.2.1, 120, .inl vh_kept))]) (fun r w => r = none ∧ w = [(ah, .inr (5, [.ref ah_all, .ref ah_kept, .ref ah_history, .int vh_historyLong, .ref ah_slots, .ref ah_isSaved, .ref ah_words, .int vh_groups, .ref ah_left, .int vh_leftLong, .ref ah_seen, .ref ah_text, .int vh_textLong, .int vh_spot, .ref ah_signs, .ref ah_pauses, .int vh_read])), (ah_all, .inl (g.2.1, 120, .inl res)), (ah_kept, .inl (g.2.1, 120, .inl vh_kept))]) := by
  refine bwS_of (by decide) (Nat.le_of_ble_eq_true rfl) ?_
  unfold f_X5_comesBack at hf
  show bwR l g cX5_comesBack 2 RX5 "comesBack" none ({ frames := 0, cells := 0, slots := 0, locals := 0 } : Room) bwT (bwZ g (fun r w => r = none ∧ w = [(ah, .inr (5, [.ref ah_all, .ref ah_kept, .ref ah_history, .int vh_historyLong, .ref ah_slots, .ref ah_isSaved, .ref ah_words, .int vh_groups, .ref ah_left, .int vh_leftLong, .ref ah_seen, .ref ah_text, .int vh_textLong, .int vh_spot, .ref ah_signs, .ref ah_pauses, .int vh_read])), (ah_all, .inl (g.2.1, 120, .inl res)), (ah_kept, .inl (g.2.1, 120, .inl vh_kept))]) 0 0) 0 [(0, .ref ah)] [] ([(ah, .inr (5, [.ref ah_all, .ref ah_kept, .ref ah_history, .int vh_historyLong, .ref ah_slots, .ref ah_isSaved, .ref ah_words, .int vh_groups, .ref ah_left, .int vh_leftLong, .ref ah_seen, .ref ah_text, .int vh_textLong, .int vh_spot, .ref ah_signs, .ref ah_pauses, .int vh_read])), (ah_all, .inl (g.2.1, 120, .inl vh_all)), (ah_kept, .inl (g.2.1, 120, .inl vh_kept))]) 0 0
  refine bw_iconst 0 dX5_comesBack_0 (by decide) ?_
  refine bw_istore_n [(1, .int 0), (0, .ref ah)] dX5_comesBack_1 rfl (by decide) rfl ?_
  refine bw_lv [1, 0] rfl ?_
  exact s_X5_comesBack_L2 l g ah ah_all ah_kept ah_history ah_slots ah_isSaved ah_words ah_left ah_seen ah_text ah_signs ah_pauses bw_F vh_historyLong vh_groups vh_leftLong vh_textLong vh_spot vh_read vh_all vh_kept 0 _ hf
theorem ar_X5_areEyes : yX5_areEyes.cls ≠ "java/lang/invoke/MethodHandle" ∧ yX5_areEyes.cls ≠ "java/lang/invoke/VarHandle" ∧ (parseMethodDescriptor yX5_areEyes.desc).map (fun d => d.parameters.length) = some 1 := ⟨by decide, by decide, by decide +kernel⟩
def f_X5_areEyes  (p0 : Int32) : Option (Int32) := ((f_X5_in (((p0 : Int32).toInt64)) 0 2).bind fun q_3 => (if bw_nb q_3 then some q_3 else none))
set_option maxHeartbeats 4000000 in
set_option maxRecDepth 100000 in
theorem s_X5_areEyes (l : Launch) (g : bwG)   (p0 : Int32) (res : Int32) (hf : f_X5_areEyes  p0 = some res) : bwS l g yX5_areEyes cX5_areEyes 1 (some .boolean) ({ frames := 1, cells := 0, slots := 0, locals := 25 } : Room) [.int p0] ([]) (fun r w => r = some (.int res) ∧ w = []) := by
  refine bwS_of (by decide) (Nat.le_of_ble_eq_true rfl) ?_
  unfold f_X5_areEyes at hf
  show bwR l g cX5_areEyes 1 RX5 "areEyes" (some .boolean) ({ frames := 1, cells := 0, slots := 0, locals := 25 } : Room) bwT (bwZ g (fun r w => r = some (.int res) ∧ w = []) 0 0) 0 [(0, .int p0)] [] ([]) 0 0
  refine bw_iload_n 0 dX5_areEyes_0 rfl rfl ?_
  refine bw_i2l dX5_areEyes_1 ?_
  refine bw_lconst 0 dX5_areEyes_2 (by decide) ?_
  refine bw_ldc2 ct_X5_47 dX5_areEyes_3 ?_
  obtain ⟨q_3, hc_3, hf⟩ := bw_bind hf
  refine bw_callS [.long (((p0 : Int32).toInt64)), .long 0, .long 2] [] [] (s_X5_in l g   (((p0 : Int32).toInt64)) 0 2 _ hc_3) rfl co_X5_in ini_X5 ml_X5_49 st_X5_in ar_X5_in ⟨Nat.le_of_ble_eq_true rfl, Nat.le_of_ble_eq_true rfl⟩ ⟨Nat.le_of_ble_eq_true rfl, Nat.le_of_ble_eq_true rfl⟩ (bw_pick1 0 [] rfl rfl (by decide)) (Nat.le_of_ble_eq_true rfl) dX5_areEyes_6 (fun r w1 hq => ?_)
  obtain ⟨rfl, rfl⟩ := hq
  refine bw_perm (ws1 := []) (bw_pick1 0 [] rfl rfl (by decide)) ?_
  refine bw_st (st1 := [.int q_3]) rfl ?_
  obtain ⟨h_4, hf⟩ := bw_chk hf
  cases Option.some.inj hf
  exact bw_ret rfl (bw_nbp h_4) (Nat.le_of_ble_eq_true rfl) (Nat.le_of_ble_eq_true rfl) dX5_areEyes_9 ⟨rfl, rfl⟩
theorem ar_X5_isCourtier : yX5_isCourtier.cls ≠ "java/lang/invoke/MethodHandle" ∧ yX5_isCourtier.cls ≠ "java/lang/invoke/VarHandle" ∧ (parseMethodDescriptor yX5_isCourtier.desc).map (fun d => d.parameters.length) = some 1 := ⟨by decide, by decide, by decide +kernel⟩
def f_X5_isCourtier  (p0 : Int32) : Option (Int32) := ((f_X5_in (((p0 : Int32).toInt64)) 0 5).bind fun q_3 => (if bw_nb q_3 then some q_3 else none))
set_option maxHeartbeats 4000000 in
set_option maxRecDepth 100000 in
theorem s_X5_isCourtier (l : Launch) (g : bwG)   (p0 : Int32) (res : Int32) (hf : f_X5_isCourtier  p0 = some res) : bwS l g yX5_isCourtier cX5_isCourtier 1 (some .boolean) ({ frames := 1, cells := 0, slots := 0, locals := 25 } : Room) [.int p0] ([]) (fun r w => r = some (.int res) ∧ w = []) := by
  refine bwS_of (by decide) (Nat.le_of_ble_eq_true rfl) ?_
  unfold f_X5_isCourtier at hf
  show bwR l g cX5_isCourtier 1 RX5 "isCourtier" (some .boolean) ({ frames := 1, cells := 0, slots := 0, locals := 25 } : Room) bwT (bwZ g (fun r w => r = some (.int res) ∧ w = []) 0 0) 0 [(0, .int p0)] [] ([]) 0 0
  refine bw_iload_n 0 dX5_isCourtier_0 rfl rfl ?_
  refine bw_i2l dX5_isCourtier_1 ?_
  refine bw_lconst 0 dX5_isCourtier_2 (by decide) ?_
  refine bw_ldc2 ct_X5_53 dX5_isCourtier_3 ?_
  obtain ⟨q_3, hc_3, hf⟩ := bw_bind hf
  refine bw_callS [.long (((p0 : Int32).toInt64)), .long 0, .long 5] [] [] (s_X5_in l g   (((p0 : Int32).toInt64)) 0 5 _ hc_3) rfl co_X5_in ini_X5 ml_X5_49 st_X5_in ar_X5_in ⟨Nat.le_of_ble_eq_true rfl, Nat.le_of_ble_eq_true rfl⟩ ⟨Nat.le_of_ble_eq_true rfl, Nat.le_of_ble_eq_true rfl⟩ (bw_pick1 0 [] rfl rfl (by decide)) (Nat.le_of_ble_eq_true rfl) dX5_isCourtier_6 (fun r w1 hq => ?_)
  obtain ⟨rfl, rfl⟩ := hq
  refine bw_perm (ws1 := []) (bw_pick1 0 [] rfl rfl (by decide)) ?_
  refine bw_st (st1 := [.int q_3]) rfl ?_
  obtain ⟨h_4, hf⟩ := bw_chk hf
  cases Option.some.inj hf
  exact bw_ret rfl (bw_nbp h_4) (Nat.le_of_ble_eq_true rfl) (Nat.le_of_ble_eq_true rfl) dX5_isCourtier_9 ⟨rfl, rfl⟩
theorem ar_X5_signSeen : yX5_signSeen.cls ≠ "java/lang/invoke/MethodHandle" ∧ yX5_signSeen.cls ≠ "java/lang/invoke/VarHandle" ∧ (parseMethodDescriptor yX5_signSeen.desc).map (fun d => d.parameters.length) = some 2 := ⟨by decide, by decide, by decide +kernel⟩
def f_X5_signSeen (vh_all : Nat → Int32) (p0 : Int32) (p1 : Int32) : Option (Int32) := (if bw_in ((48 + p0)) 120 then (if p1 = 1 then (if (vh_all (Int32.toNatClampNeg ((48 + p0)))) ≤ 3 then some (vh_all (Int32.toNatClampNeg ((48 + p0)))) else some ((vh_all (Int32.toNatClampNeg ((48 + p0)))) - 2)) else some (vh_all (Int32.toNatClampNeg ((48 + p0))))) else none)
set_option maxHeartbeats 4000000 in
set_option maxRecDepth 100000 in
theorem s_X5_signSeen (l : Launch) (g : bwG) (ah ah_all ah_kept ah_history ah_slots ah_isSaved ah_words ah_left ah_seen ah_text ah_signs ah_pauses : Nat) (vh_historyLong : Int32) (vh_groups : Int32) (vh_leftLong : Int32) (vh_textLong : Int32) (vh_spot : Int32) (vh_read : Int32) (vh_all : Nat → Int32) (p0 : Int32) (p1 : Int32) (res : Int32) (hf : f_X5_signSeen vh_all p0 p1 = some res) : bwS l g yX5_signSeen cX5_signSeen 4 (some .int) ({ frames := 0, cells := 0, slots := 0, locals := 0 } : Room) [.ref ah, .int p0, .int p1] ([(ah, .inr (5, [.ref ah_all, .ref ah_kept, .ref ah_history, .int vh_historyLong, .ref ah_slots, .ref ah_isSaved, .ref ah_words, .int vh_groups, .ref ah_left, .int vh_leftLong, .ref ah_seen, .ref ah_text, .int vh_textLong, .int vh_spot, .ref ah_signs, .ref ah_pauses, .int vh_read])), (ah_all, .inl (g.2.1, 120, .inl vh_all))]) (fun r w => r = some (.int res) ∧ w = [(ah, .inr (5, [.ref ah_all, .ref ah_kept, .ref ah_history, .int vh_historyLong, .ref ah_slots, .ref ah_isSaved, .ref ah_words, .int vh_groups, .ref ah_left, .int vh_leftLong, .ref ah_seen, .ref ah_text, .int vh_textLong, .int vh_spot, .ref ah_signs, .ref ah_pauses, .int vh_read])), (ah_all, .inl (g.2.1, 120, .inl vh_all))]) := by
  refine bwS_of (by decide) (Nat.le_of_ble_eq_true rfl) ?_
  unfold f_X5_signSeen at hf
  show bwR l g cX5_signSeen 4 RX5 "signSeen" (some .int) ({ frames := 0, cells := 0, slots := 0, locals := 0 } : Room) bwT (bwZ g (fun r w => r = some (.int res) ∧ w = [(ah, .inr (5, [.ref ah_all, .ref ah_kept, .ref ah_history, .int vh_historyLong, .ref ah_slots, .ref ah_isSaved, .ref ah_words, .int vh_groups, .ref ah_left, .int vh_leftLong, .ref ah_seen, .ref ah_text, .int vh_textLong, .int vh_spot, .ref ah_signs, .ref ah_pauses, .int vh_read])), (ah_all, .inl (g.2.1, 120, .inl vh_all))]) 0 0) 0 [(0, .ref ah), (1, .int p0), (2, .int p1)] [] ([(ah, .inr (5, [.ref ah_all, .ref ah_kept, .ref ah_history, .int vh_historyLong, .ref ah_slots, .ref ah_isSaved, .ref ah_words, .int vh_groups, .ref ah_left, .int vh_leftLong, .ref ah_seen, .ref ah_text, .int vh_textLong, .int vh_spot, .ref ah_signs, .ref ah_pauses, .int vh_read])), (ah_all, .inl (g.2.1, 120, .inl vh_all))]) 0 0
  refine bw_aload_n 0 dX5_signSeen_0 rfl rfl ?_
  refine bw_gf bkX5 0 0 (by decide) fl_X5_7 rfl rfl dX5_signSeen_1 ?_
  refine bw_bipush 48 dX5_signSeen_4 (by decide) ?_
  refine bw_iload_n 1 dX5_signSeen_6 rfl rfl ?_
  refine bw_iadd dX5_signSeen_7 ?_
  obtain ⟨h_4, hf⟩ := bw_chk hf
  refine bw_iald 1 rfl h_4 dX5_signSeen_8 ?_
  refine bw_istore_n [(3, .int ((vh_all (Int32.toNatClampNeg ((48 + p0)))))), (0, .ref ah), (1, .int p0), (2, .int p1)] dX5_signSeen_9 rfl (by decide) rfl ?_
  refine bw_iload_n 3 dX5_signSeen_10 rfl rfl ?_
  refine bw_iconst 1 dX5_signSeen_11 (by decide) ?_
  refine bw_icmp_ne 26 dX5_signSeen_12 (by decide) (fun c_5 => ?_) (fun c_5 => ?_)
  · have hf := bw_neg c_5 hf
    refine bw_iload_n 0 dX5_signSeen_26 rfl rfl ?_
    cases Option.some.inj hf
    exact bw_ret rfl rfl (Nat.le_of_ble_eq_true rfl) (Nat.le_of_ble_eq_true rfl) dX5_signSeen_27 ⟨rfl, rfl⟩
  · have hf := bw_pos c_5 hf
    refine bw_iload_n 0 dX5_signSeen_15 rfl rfl ?_
    refine bw_iconst 3 dX5_signSeen_16 (by decide) ?_
    refine bw_icmp_le 26 dX5_signSeen_17 (by decide) (fun c_6 => ?_) (fun c_6 => ?_)
    · have hf := bw_pos c_6 hf
      refine bw_iload_n 0 dX5_signSeen_26 rfl rfl ?_
      cases Option.some.inj hf
      exact bw_ret rfl rfl (Nat.le_of_ble_eq_true rfl) (Nat.le_of_ble_eq_true rfl) dX5_signSeen_27 ⟨rfl, rfl⟩
    · have hf := bw_neg c_6 hf
      refine bw_iload_n 0 dX5_signSeen_20 rfl rfl ?_
      refine bw_iconst 2 dX5_signSeen_21 (by decide) ?_
      refine bw_isub dX5_signSeen_22 ?_
      refine bw_goto 27 dX5_signSeen_23 (by decide) ?_
      cases Option.some.inj hf
      exact bw_ret rfl rfl (Nat.le_of_ble_eq_true rfl) (Nat.le_of_ble_eq_true rfl) dX5_signSeen_27 ⟨rfl, rfl⟩
theorem ar_X5_endsSeen : yX5_endsSeen.cls ≠ "java/lang/invoke/MethodHandle" ∧ yX5_endsSeen.cls ≠ "java/lang/invoke/VarHandle" ∧ (parseMethodDescriptor yX5_endsSeen.desc).map (fun d => d.parameters.length) = some 2 := ⟨by decide, by decide, by decide +kernel⟩
def f_X5_endsSeen (vh_all : Nat → Int32) (p0 : Int32) (p1 : Int32) : Option (Int32) := (if bw_in ((72 + p0)) 120 then (if bw_in 3 120 then (if p0 = ((vh_all (Int32.toNatClampNeg 3)) - 1) then some 1 else (if bw_in 0 120 then (if (vh_all (Int32.toNatClampNeg 0)) ≤ (vh_all (Int32.toNatClampNeg ((72 + p0)))) then some 1 else (if p1 = 2 then (if (vh_all (Int32.toNatClampNeg ((72 + p0)))) ≤ 0 then some 0 else some 1) else some 0)) else none)) else none) else none)
set_option maxHeartbeats 4000000 in
set_option maxRecDepth 100000 in
theorem s_X5_endsSeen (l : Launch) (g : bwG) (ah ah_all ah_kept ah_history ah_slots ah_isSaved ah_words ah_left ah_seen ah_text ah_signs ah_pauses : Nat) (vh_historyLong : Int32) (vh_groups : Int32) (vh_leftLong : Int32) (vh_textLong : Int32) (vh_spot : Int32) (vh_read : Int32) (vh_all : Nat → Int32) (p0 : Int32) (p1 : Int32) (res : Int32) (hf : f_X5_endsSeen vh_all p0 p1 = some res) : bwS l g yX5_endsSeen cX5_endsSeen 4 (some .boolean) ({ frames := 0, cells := 0, slots := 0, locals := 0 } : Room) [.ref ah, .int p0, .int p1] ([(ah, .inr (5, [.ref ah_all, .ref ah_kept, .ref ah_history, .int vh_historyLong, .ref ah_slots, .ref ah_isSaved, .ref ah_words, .int vh_groups, .ref ah_left, .int vh_leftLong, .ref ah_seen, .ref ah_text, .int vh_textLong, .int vh_spot, .ref ah_signs, .ref ah_pauses, .int vh_read])), (ah_all, .inl (g.2.1, 120, .inl vh_all))]) (fun r w => r = some (.int res) ∧ w = [(ah, .inr (5, [.ref ah_all, .ref ah_kept, .ref ah_history, .int vh_historyLong, .ref ah_slots, .ref ah_isSaved, .ref ah_words, .int vh_groups, .ref ah_left, .int vh_leftLong, .ref ah_seen, .ref ah_text, .int vh_textLong, .int vh_spot, .ref ah_signs, .ref ah_pauses, .int vh_read])), (ah_all, .inl (g.2.1, 120, .inl vh_all))]) := by
  refine bwS_of (by decide) (Nat.le_of_ble_eq_true rfl) ?_
  unfold f_X5_endsSeen at hf
  show bwR l g cX5_endsSeen 4 RX5 "endsSeen" (some .boolean) ({ frames := 0, cells := 0, slots := 0, locals := 0 } : Room) bwT (bwZ g (fun r w => r = some (.int res) ∧ w = [(ah, .inr (5, [.ref ah_all, .ref ah_kept, .ref ah_history, .int vh_historyLong, .ref ah_slots, .ref ah_isSaved, .ref ah_words, .int vh_groups, .ref ah_left, .int vh_leftLong, .ref ah_seen, .ref ah_text, .int vh_textLong, .int vh_spot, .ref ah_signs, .ref ah_pauses, .int vh_read])), (ah_all, .inl (g.2.1, 120, .inl vh_all))]) 0 0) 0 [(0, .ref ah), (1, .int p0), (2, .int p1)] [] ([(ah, .inr (5, [.ref ah_all, .ref ah_kept, .ref ah_history, .int vh_historyLong, .ref ah_slots, .ref ah_isSaved, .ref ah_words, .int vh_groups, .ref ah_left, .int vh_leftLong, .ref ah_seen, .ref ah_text, .int vh_textLong, .int vh_spot, .ref ah_signs, .ref ah_pauses, .int vh_read])), (ah_all, .inl (g.2.1, 120, .inl vh_all))]) 0 0
  refine bw_aload_n 0 dX5_endsSeen_0 rfl rfl ?_
  refine bw_gf bkX5 0 0 (by decide) fl_X5_7 rfl rfl dX5_endsSeen_1 ?_
  refine bw_bipush 72 dX5_endsSeen_4 (by decide) ?_
  refine bw_iload_n 1 dX5_endsSeen_6 rfl rfl ?_
  refine bw_iadd dX5_endsSeen_7 ?_
  obtain ⟨h_8, hf⟩ := bw_chk hf
  refine bw_iald 1 rfl h_8 dX5_endsSeen_8 ?_
  refine bw_istore_n [(3, .int ((vh_all (Int32.toNatClampNeg ((72 + p0)))))), (0, .ref ah), (1, .int p0), (2, .int p1)] dX5_endsSeen_9 rfl (by decide) rfl ?_
  refine bw_iload_n 2 dX5_endsSeen_10 rfl rfl ?_
  refine bw_aload_n 1 dX5_endsSeen_11 rfl rfl ?_
  refine bw_gf bkX5 0 0 (by decide) fl_X5_7 rfl rfl dX5_endsSeen_12 ?_
  refine bw_iconst 3 dX5_endsSeen_15 (by decide) ?_
  obtain ⟨h_9, hf⟩ := bw_chk hf
  refine bw_iald 1 rfl h_9 dX5_endsSeen_16 ?_
  refine bw_iconst 1 dX5_endsSeen_17 (by decide) ?_
  refine bw_isub dX5_endsSeen_18 ?_
  refine bw_icmp_eq 41 dX5_endsSeen_19 (by decide) (fun c_10 => ?_) (fun c_10 => ?_)
  · have hf := bw_pos c_10 hf
    refine bw_iconst 1 dX5_endsSeen_41 (by decide) ?_
    refine bw_goto 46 dX5_endsSeen_42 (by decide) ?_
    cases Option.some.inj hf
    exact bw_ret rfl rfl (Nat.le_of_ble_eq_true rfl) (Nat.le_of_ble_eq_true rfl) dX5_endsSeen_46 ⟨rfl, rfl⟩
  · have hf := bw_neg c_10 hf
    refine bw_iload_n 0 dX5_endsSeen_22 rfl rfl ?_
    refine bw_aload_n 1 dX5_endsSeen_23 rfl rfl ?_
    refine bw_gf bkX5 0 0 (by decide) fl_X5_7 rfl rfl dX5_endsSeen_24 ?_
    refine bw_iconst 0 dX5_endsSeen_27 (by decide) ?_
    obtain ⟨h_11, hf⟩ := bw_chk hf
    refine bw_iald 1 rfl h_11 dX5_endsSeen_28 ?_
    refine bw_icmp_ge 41 dX5_endsSeen_29 (by decide) (fun c_12 => ?_) (fun c_12 => ?_)
    · have hf := bw_pos c_12 hf
      refine bw_iconst 1 dX5_endsSeen_41 (by decide) ?_
      refine bw_goto 46 dX5_endsSeen_42 (by decide) ?_
      cases Option.some.inj hf
      exact bw_ret rfl rfl (Nat.le_of_ble_eq_true rfl) (Nat.le_of_ble_eq_true rfl) dX5_endsSeen_46 ⟨rfl, rfl⟩
    · have hf := bw_neg c_12 hf
      refine bw_iload_n 3 dX5_endsSeen_32 rfl rfl ?_
      refine bw_iconst 2 dX5_endsSeen_33 (by decide) ?_
      refine bw_icmp_ne 45 dX5_endsSeen_34 (by decide) (fun c_13 => ?_) (fun c_13 => ?_)
      · have hf := bw_neg c_13 hf
        refine bw_iconst 0 dX5_endsSeen_45 (by decide) ?_
        cases Option.some.inj hf
        exact bw_ret rfl rfl (Nat.le_of_ble_eq_true rfl) (Nat.le_of_ble_eq_true rfl) dX5_endsSeen_46 ⟨rfl, rfl⟩
      · have hf := bw_pos c_13 hf
        refine bw_iload_n 0 dX5_endsSeen_37 rfl rfl ?_
        refine bw_if_le 45 dX5_endsSeen_38 (by decide) (fun c_14 => ?_) (fun c_14 => ?_)
        · have hf := bw_pos c_14 hf
          refine bw_iconst 0 dX5_endsSeen_45 (by decide) ?_
          cases Option.some.inj hf
          exact bw_ret rfl rfl (Nat.le_of_ble_eq_true rfl) (Nat.le_of_ble_eq_true rfl) dX5_endsSeen_46 ⟨rfl, rfl⟩
        · have hf := bw_neg c_14 hf
          refine bw_iconst 1 dX5_endsSeen_41 (by decide) ?_
          refine bw_goto 46 dX5_endsSeen_42 (by decide) ?_
          cases Option.some.inj hf
          exact bw_ret rfl rfl (Nat.le_of_ble_eq_true rfl) (Nat.le_of_ble_eq_true rfl) dX5_endsSeen_46 ⟨rfl, rfl⟩
theorem ar_X5_isFlourish : yX5_isFlourish.cls ≠ "java/lang/invoke/MethodHandle" ∧ yX5_isFlourish.cls ≠ "java/lang/invoke/VarHandle" ∧ (parseMethodDescriptor yX5_isFlourish.desc).map (fun d => d.parameters.length) = some 1 := ⟨by decide, by decide, by decide +kernel⟩
def f_X5_isFlourish  (p0 : Int32) : Option (Int32) := (if p0 < 42 then some 0 else some 1)
set_option maxHeartbeats 4000000 in
set_option maxRecDepth 100000 in
theorem s_X5_isFlourish (l : Launch) (g : bwG)   (p0 : Int32) (res : Int32) (hf : f_X5_isFlourish  p0 = some res) : bwS l g yX5_isFlourish cX5_isFlourish 1 (some .boolean) ({ frames := 0, cells := 0, slots := 0, locals := 0 } : Room) [.int p0] ([]) (fun r w => r = some (.int res) ∧ w = []) := by
  refine bwS_of (by decide) (Nat.le_of_ble_eq_true rfl) ?_
  unfold f_X5_isFlourish at hf
  show bwR l g cX5_isFlourish 1 RX5 "isFlourish" (some .boolean) ({ frames := 0, cells := 0, slots := 0, locals := 0 } : Room) bwT (bwZ g (fun r w => r = some (.int res) ∧ w = []) 0 0) 0 [(0, .int p0)] [] ([]) 0 0
  refine bw_iload_n 0 dX5_isFlourish_0 rfl rfl ?_
  refine bw_bipush 42 dX5_isFlourish_1 (by decide) ?_
  refine bw_icmp_lt 10 dX5_isFlourish_3 (by decide) (fun c_2 => ?_) (fun c_2 => ?_)
  · have hf := bw_pos c_2 hf
    refine bw_iconst 0 dX5_isFlourish_10 (by decide) ?_
    cases Option.some.inj hf
    exact bw_ret rfl rfl (Nat.le_of_ble_eq_true rfl) (Nat.le_of_ble_eq_true rfl) dX5_isFlourish_11 ⟨rfl, rfl⟩
  · have hf := bw_neg c_2 hf
    refine bw_iconst 1 dX5_isFlourish_6 (by decide) ?_
    refine bw_goto 11 dX5_isFlourish_7 (by decide) ?_
    cases Option.some.inj hf
    exact bw_ret rfl rfl (Nat.le_of_ble_eq_true rfl) (Nat.le_of_ble_eq_true rfl) dX5_isFlourish_11 ⟨rfl, rfl⟩
theorem ar_X5_isDeed : yX5_isDeed.cls ≠ "java/lang/invoke/MethodHandle" ∧ yX5_isDeed.cls ≠ "java/lang/invoke/VarHandle" ∧ (parseMethodDescriptor yX5_isDeed.desc).map (fun d => d.parameters.length) = some 1 := ⟨by decide, by decide, by decide +kernel⟩
def f_X5_isDeed  (p0 : Int32) : Option (Int32) := ((f_X5_in (((p0 : Int32).toInt64)) 6 41).bind fun q_3 => (if bw_nb q_3 then some q_3 else none))
set_option maxHeartbeats 4000000 in
set_option maxRecDepth 100000 in
theorem s_X5_isDeed (l : Launch) (g : bwG)   (p0 : Int32) (res : Int32) (hf : f_X5_isDeed  p0 = some res) : bwS l g yX5_isDeed cX5_isDeed 1 (some .boolean) ({ frames := 1, cells := 0, slots := 0, locals := 25 } : Room) [.int p0] ([]) (fun r w => r = some (.int res) ∧ w = []) := by
  refine bwS_of (by decide) (Nat.le_of_ble_eq_true rfl) ?_
  unfold f_X5_isDeed at hf
  show bwR l g cX5_isDeed 1 RX5 "isDeed" (some .boolean) ({ frames := 1, cells := 0, slots := 0, locals := 25 } : Room) bwT (bwZ g (fun r w => r = some (.int res) ∧ w = []) 0 0) 0 [(0, .int p0)] [] ([]) 0 0
  refine bw_iload_n 0 dX5_isDeed_0 rfl rfl ?_
  refine bw_i2l dX5_isDeed_1 ?_
  refine bw_ldc2 ct_X5_55 dX5_isDeed_2 ?_
  refine bw_ldc2 ct_X5_57 dX5_isDeed_5 ?_
  obtain ⟨q_3, hc_3, hf⟩ := bw_bind hf
  refine bw_callS [.long (((p0 : Int32).toInt64)), .long 6, .long 41] [] [] (s_X5_in l g   (((p0 : Int32).toInt64)) 6 41 _ hc_3) rfl co_X5_in ini_X5 ml_X5_49 st_X5_in ar_X5_in ⟨Nat.le_of_ble_eq_true rfl, Nat.le_of_ble_eq_true rfl⟩ ⟨Nat.le_of_ble_eq_true rfl, Nat.le_of_ble_eq_true rfl⟩ (bw_pick1 0 [] rfl rfl (by decide)) (Nat.le_of_ble_eq_true rfl) dX5_isDeed_8 (fun r w1 hq => ?_)
  obtain ⟨rfl, rfl⟩ := hq
  refine bw_perm (ws1 := []) (bw_pick1 0 [] rfl rfl (by decide)) ?_
  refine bw_st (st1 := [.int q_3]) rfl ?_
  obtain ⟨h_4, hf⟩ := bw_chk hf
  cases Option.some.inj hf
  exact bw_ret rfl (bw_nbp h_4) (Nat.le_of_ble_eq_true rfl) (Nat.le_of_ble_eq_true rfl) dX5_isDeed_11 ⟨rfl, rfl⟩
def f_X5_parts_L130 : Nat → (Int32) → (Int32) → (Nat → Int32) → (Nat → Int32) → (Nat → Int32) → (Int32) → (Int32) → (Int32) → (Int32) → Option ((Int32) × (Int32) × (Nat → Int32) × (Nat → Int32))
  | 0, _, _, _, _, _, _, _, _, _ => none
  | fu + 1, vh_groups, vh_leftLong, vh_all, vh_words, vh_left, x1, x2, x3, x4 => (if vh_groups ≤ x4 then some (vh_groups, vh_leftLong, vh_words, vh_left) else (if bw_in x4 24 then ((f_X5_isFlourish ((vh_words (Int32.toNatClampNeg x4)))).bind fun q_31 => (if q_31 = 0 then (if bw_in x4 24 then (if bw_in vh_leftLong 24 then (f_X5_parts_L130 fu vh_groups ((vh_leftLong + 1)) vh_all vh_words ((upd vh_left (Int32.toNatClampNeg vh_leftLong) ((vh_words (Int32.toNatClampNeg x4))))) x1 x2 x3 ((x4 + 1))) else none) else none) else (f_X5_parts_L130 fu vh_groups vh_leftLong vh_all vh_words vh_left x1 x2 x3 ((x4 + 1))))) else none))
set_option maxHeartbeats 4000000 in
set_option maxRecDepth 100000 in
theorem s_X5_parts_L130 (l : Launch) (g : bwG) (ah ah_all ah_kept ah_history ah_slots ah_isSaved ah_words ah_left ah_seen ah_text ah_signs ah_pauses : Nat) (fu : Nat) : ∀ (vh_historyLong : Int32) (vh_groups : Int32) (vh_leftLong : Int32) (vh_textLong : Int32) (vh_spot : Int32) (vh_read : Int32) (vh_all : Nat → Int32) (vh_words : Nat → Int32) (vh_left : Nat → Int32) (x1 : Int32) (x2 : Int32) (x3 : Int32) (x4 : Int32) (res : (Int32) × (Int32) × (Nat → Int32) × (Nat → Int32)), f_X5_parts_L130 fu vh_groups vh_leftLong vh_all vh_words vh_left x1 x2 x3 x4 = some res → bwR l g cX5_parts 5 RX5 "parts" none ({ frames := 1, cells := 0, slots := 0, locals := 23 } : Room) bwT (bwZ g (fun r w => r = none ∧ w = [(ah, .inr (5, [.ref ah_all, .ref ah_kept, .ref ah_history, .int vh_historyLong, .ref ah_slots, .ref ah_isSaved, .ref ah_words, .int res.1, .ref ah_left, .int res.2.1, .ref ah_seen, .ref ah_text, .int vh_textLong, .int vh_spot, .ref ah_signs, .ref ah_pauses, .int vh_read])), (ah_all, .inl (g.2.1, 120, .inl vh_all)), (ah_words, .inl (g.2.1, 24, .inl res.2.2.1)), (ah_left, .inl (g.2.1, 24, .inl res.2.2.2))]) 0 0) 130 [(0, .ref ah), (1, .int x1), (2, .int x2), (3, .int x3), (4, .int x4)] [] ([(ah, .inr (5, [.ref ah_all, .ref ah_kept, .ref ah_history, .int vh_historyLong, .ref ah_slots, .ref ah_isSaved, .ref ah_words, .int vh_groups, .ref ah_left, .int vh_leftLong, .ref ah_seen, .ref ah_text, .int vh_textLong, .int vh_spot, .ref ah_signs, .ref ah_pauses, .int vh_read])), (ah_all, .inl (g.2.1, 120, .inl vh_all)), (ah_words, .inl (g.2.1, 24, .inl vh_words)), (ah_left, .inl (g.2.1, 24, .inl vh_left))]) 0 0 := by
  induction fu with
  | zero => intro vh_historyLong vh_groups vh_leftLong vh_textLong vh_spot vh_read vh_all vh_words vh_left x1 x2 x3 x4 res hf; exact absurd hf (by intro h; cases h)
  | succ fu ih =>
    intro vh_historyLong vh_groups vh_leftLong vh_textLong vh_spot vh_read vh_all vh_words vh_left x1 x2 x3 x4 res hf
    rw [f_X5_parts_L130] at hf
    refine bw_iload 4 dX5_parts_130 rfl ?_
    refine bw_aload_n 0 dX5_parts_132 rfl rfl ?_
    refine bw_gf bkX5 0 7 (by decide) fl_X5_59 rfl rfl dX5_parts_133 ?_
    refine bw_icmp_ge 184 dX5_parts_136 (by decide) (fun c_29 => ?_) (fun c_29 => ?_)
    · have hf := bw_pos c_29 hf
      cases Option.some.inj hf
      exact bw_vret rfl (Nat.le_of_ble_eq_true rfl) (Nat.le_of_ble_eq_true rfl) dX5_parts_184 ⟨rfl, rfl⟩
    · have hf := bw_neg c_29 hf
      refine bw_aload_n 0 dX5_parts_139 rfl rfl ?_
      refine bw_gf bkX5 0 6 (by decide) fl_X5_25 rfl rfl dX5_parts_140 ?_
      refine bw_iload 4 dX5_parts_143 rfl ?_
      obtain ⟨h_30, hf⟩ := bw_chk hf
      refine bw_iald 2 rfl h_30 dX5_parts_145 ?_
      obtain ⟨q_31, hc_31, hf⟩ := bw_bind hf
      refine bw_callS [.int ((vh_words (Int32.toNatClampNeg x4)))] [] [(ah, .inr (5, [.ref ah_all, .ref ah_kept, .ref ah_history, .int vh_historyLong, .ref ah_slots, .ref ah_isSaved, .ref ah_words, .int vh_groups, .ref ah_left, .int vh_leftLong, .ref ah_seen, .ref ah_text, .int vh_textLong, .int vh_spot, .ref ah_signs, .ref ah_pauses, .int vh_read])), (ah_all, .inl (g.2.1, 120, .inl vh_all)), (ah_words, .inl (g.2.1, 24, .inl vh_words)), (ah_left, .inl (g.2.1, 24, .inl vh_left))] (s_X5_isFlourish l g   ((vh_words (Int32.toNatClampNeg x4))) _ hc_31) rfl co_X5_isFlourish ini_X5 ml_X5_74 st_X5_isFlourish ar_X5_isFlourish ⟨Nat.le_of_ble_eq_true rfl, Nat.le_of_ble_eq_true rfl⟩ ⟨Nat.le_of_ble_eq_true rfl, Nat.le_of_ble_eq_true rfl⟩ (bw_pick1 4 [0, 1, 2, 3] rfl rfl (by decide)) (Nat.le_of_ble_eq_true rfl) dX5_parts_146 (fun r w1 hq => ?_)
      obtain ⟨rfl, rfl⟩ := hq
      refine bw_perm (ws1 := [(ah, .inr (5, [.ref ah_all, .ref ah_kept, .ref ah_history, .int vh_historyLong, .ref ah_slots, .ref ah_isSaved, .ref ah_words, .int vh_groups, .ref ah_left, .int vh_leftLong, .ref ah_seen, .ref ah_text, .int vh_textLong, .int vh_spot, .ref ah_signs, .ref ah_pauses, .int vh_read])), (ah_all, .inl (g.2.1, 120, .inl vh_all)), (ah_words, .inl (g.2.1, 24, .inl vh_words)), (ah_left, .inl (g.2.1, 24, .inl vh_left))]) (bw_pick1 4 [0, 1, 2, 3] rfl rfl (by decide)) ?_
      refine bw_st (st1 := [.int q_31]) rfl ?_
      refine bw_if_ne 178 dX5_parts_149 (by decide) (fun c_32 => ?_) (fun c_32 => ?_)
      · have hf := bw_neg c_32 hf
        refine bw_iinc 4 (x4 + 1) [(4, .int ((x4 + 1))), (0, .ref ah), (1, .int x1), (2, .int x2), (3, .int x3)] dX5_parts_178 rfl rfl (by decide) rfl ?_
        refine bw_goto 130 dX5_parts_181 (by decide) ?_
        refine bw_lv [1, 2, 3, 4, 0] rfl ?_
        exact ih vh_historyLong vh_groups vh_leftLong vh_textLong vh_spot vh_read vh_all vh_words vh_left x1 x2 x3 ((x4 + 1)) _ hf
      · have hf := bw_pos c_32 hf
        refine bw_aload_n 0 dX5_parts_152 rfl rfl ?_
        refine bw_gf bkX5 0 8 (by decide) fl_X5_28 rfl rfl dX5_parts_153 ?_
        refine bw_aload_n 0 dX5_parts_156 rfl rfl ?_
        refine bw_gf bkX5 0 9 (by decide) fl_X5_71 rfl rfl dX5_parts_157 ?_
        refine bw_aload_n 0 dX5_parts_160 rfl rfl ?_
        refine bw_gf bkX5 0 6 (by decide) fl_X5_25 rfl rfl dX5_parts_161 ?_
        refine bw_iload 4 dX5_parts_164 rfl ?_
        obtain ⟨h_33, hf⟩ := bw_chk hf
        refine bw_iald 2 rfl h_33 dX5_parts_166 ?_
        obtain ⟨h_34, hf⟩ := bw_chk hf
        refine bw_iast 3 ([(ah, .inr (5, [.ref ah_all, .ref ah_kept, .ref ah_history, .int vh_historyLong, .ref ah_slots, .ref ah_isSaved, .ref ah_words, .int vh_groups, .ref ah_left, .int vh_leftLong, .ref ah_seen, .ref ah_text, .int vh_textLong, .int vh_spot, .ref ah_signs, .ref ah_pauses, .int vh_read])), (ah_all, .inl (g.2.1, 120, .inl vh_all)), (ah_words, .inl (g.2.1, 24, .inl vh_words)), (ah_left, .inl (g.2.1, 24, .inl ((upd vh_left (Int32.toNatClampNeg vh_leftLong) ((vh_words (Int32.toNatClampNeg x4)))))))]) rfl h_34 rfl dX5_parts_167 ?_
        refine bw_aload_n 0 dX5_parts_168 rfl rfl ?_
        refine bw_dup dX5_parts_169 rfl ?_
        refine bw_gf bkX5 0 9 (by decide) fl_X5_71 rfl rfl dX5_parts_170 ?_
        refine bw_iconst 1 dX5_parts_173 (by decide) ?_
        refine bw_iadd dX5_parts_174 ?_
        refine bw_pf bkX5 0 9 ([(ah, .inr (5, [.ref ah_all, .ref ah_kept, .ref ah_history, .int vh_historyLong, .ref ah_slots, .ref ah_isSaved, .ref ah_words, .int vh_groups, .ref ah_left, .int ((vh_leftLong + 1)), .ref ah_seen, .ref ah_text, .int vh_textLong, .int vh_spot, .ref ah_signs, .ref ah_pauses, .int vh_read])), (ah_all, .inl (g.2.1, 120, .inl vh_all)), (ah_words, .inl (g.2.1, 24, .inl vh_words)), (ah_left, .inl (g.2.1, 24, .inl ((upd vh_left (Int32.toNatClampNeg vh_leftLong) ((vh_words (Int32.toNatClampNeg x4)))))))]) (by decide) fl_X5_71 rfl rfl rfl rfl rfl (Nat.le_of_ble_eq_true rfl) rfl dX5_parts_175 ?_
        refine bw_iinc 4 (x4 + 1) [(4, .int ((x4 + 1))), (0, .ref ah), (1, .int x1), (2, .int x2), (3, .int x3)] dX5_parts_178 rfl rfl (by decide) rfl ?_
        refine bw_goto 130 dX5_parts_181 (by decide) ?_
        refine bw_lv [1, 2, 3, 4, 0] rfl ?_
        exact ih vh_historyLong vh_groups ((vh_leftLong + 1)) vh_textLong vh_spot vh_read vh_all vh_words ((upd vh_left (Int32.toNatClampNeg vh_leftLong) ((vh_words (Int32.toNatClampNeg x4))))) x1 x2 x3 ((x4 + 1)) _ hf
def f_X5_parts_L12 : Nat → (Int32) → (Int32) → (Nat → Int32) → (Nat → Int32) → (Nat → Int32) → (Int32) → (Int32) → (Int32) → (Int32) → Option ((Int32) × (Int32) × (Nat → Int32) × (Nat → Int32))
  | 0, _, _, _, _, _, _, _, _, _ => none
  | fu + 1, vh_groups, vh_leftLong, vh_all, vh_words, vh_left, x1, x2, x3, x4 => (if bw_in 3 120 then (if (vh_all (Int32.toNatClampNeg 3)) ≤ x4 then (f_X5_parts_L130 bw_F vh_groups 0 vh_all vh_words vh_left x1 x2 x3 0) else (if (x2 + 1) ≤ 3 then ((f_X5_signSeen vh_all x4 x1).bind fun q_38 => ((f_X5_endsSeen vh_all x4 x1).bind fun q_39 => (if q_39 = 0 then (f_X5_parts_L12 fu vh_groups vh_leftLong vh_all vh_words vh_left x1 ((x2 + 1)) (((6 * x3) + q_38)) ((x4 + 1))) else (if (x2 + 1) = 1 then (if bw_in vh_groups 24 then (f_X5_parts_L12 fu ((vh_groups + 1)) vh_leftLong vh_all ((upd vh_words (Int32.toNatClampNeg vh_groups) (((6 * x3) + q_38)))) vh_left x1 0 0 ((x4 + 1))) else none) else (if (x2 + 1) = 2 then (if bw_in vh_groups 24 then (f_X5_parts_L12 fu ((vh_groups + 1)) vh_leftLong vh_all ((upd vh_words (Int32.toNatClampNeg vh_groups) ((6 + ((6 * x3) + q_38))))) vh_left x1 0 0 ((x4 + 1))) else none) else (if (x2 + 1) = 3 then (if bw_in vh_groups 24 then (f_X5_parts_L12 fu ((vh_groups + 1)) vh_leftLong vh_all ((upd vh_words (Int32.toNatClampNeg vh_groups) ((42 + ((6 * x3) + q_38))))) vh_left x1 0 0 ((x4 + 1))) else none) else (if bw_in vh_groups 24 then (f_X5_parts_L12 fu ((vh_groups + 1)) vh_leftLong vh_all ((upd vh_words (Int32.toNatClampNeg vh_groups) ((-1000006)))) vh_left x1 0 0 ((x4 + 1))) else none))))))) else ((f_X5_endsSeen vh_all x4 x1).bind fun q_48 => (if q_48 = 0 then (f_X5_parts_L12 fu vh_groups vh_leftLong vh_all vh_words vh_left x1 ((x2 + 1)) 0 ((x4 + 1))) else (if (x2 + 1) = 1 then (if bw_in vh_groups 24 then (f_X5_parts_L12 fu ((vh_groups + 1)) vh_leftLong vh_all ((upd vh_words (Int32.toNatClampNeg vh_groups) 0)) vh_left x1 0 0 ((x4 + 1))) else none) else (if (x2 + 1) = 2 then (if bw_in vh_groups 24 then (f_X5_parts_L12 fu ((vh_groups + 1)) vh_leftLong vh_all ((upd vh_words (Int32.toNatClampNeg vh_groups) ((6 + 0)))) vh_left x1 0 0 ((x4 + 1))) else none) else (if (x2 + 1) = 3 then (if bw_in vh_groups 24 then (f_X5_parts_L12 fu ((vh_groups + 1)) vh_leftLong vh_all ((upd vh_words (Int32.toNatClampNeg vh_groups) ((42 + 0)))) vh_left x1 0 0 ((x4 + 1))) else none) else (if bw_in vh_groups 24 then (f_X5_parts_L12 fu ((vh_groups + 1)) vh_leftLong vh_all ((upd vh_words (Int32.toNatClampNeg vh_groups) ((-1000006)))) vh_left x1 0 0 ((x4 + 1))) else none)))))))) else none)
set_option maxHeartbeats 4000000 in
set_option maxRecDepth 100000 in
theorem s_X5_parts_L12 (l : Launch) (g : bwG) (ah ah_all ah_kept ah_history ah_slots ah_isSaved ah_words ah_left ah_seen ah_text ah_signs ah_pauses : Nat) (fu : Nat) : ∀ (vh_historyLong : Int32) (vh_groups : Int32) (vh_leftLong : Int32) (vh_textLong : Int32) (vh_spot : Int32) (vh_read : Int32) (vh_all : Nat → Int32) (vh_words : Nat → Int32) (vh_left : Nat → Int32) (x1 : Int32) (x2 : Int32) (x3 : Int32) (x4 : Int32) (res : (Int32) × (Int32) × (Nat → Int32) × (Nat → Int32)), f_X5_parts_L12 fu vh_groups vh_leftLong vh_all vh_words vh_left x1 x2 x3 x4 = some res → bwR l g cX5_parts 5 RX5 "parts" none ({ frames := 1, cells := 0, slots := 0, locals := 23 } : Room) bwT (bwZ g (fun r w => r = none ∧ w = [(ah, .inr (5, [.ref ah_all, .ref ah_kept, .ref ah_history, .int vh_historyLong, .ref ah_slots, .ref ah_isSaved, .ref ah_words, .int res.1, .ref ah_left, .int res.2.1, .ref ah_seen, .ref ah_text, .int vh_textLong, .int vh_spot, .ref ah_signs, .ref ah_pauses, .int vh_read])), (ah_all, .inl (g.2.1, 120, .inl vh_all)), (ah_words, .inl (g.2.1, 24, .inl res.2.2.1)), (ah_left, .inl (g.2.1, 24, .inl res.2.2.2))]) 0 0) 12 [(0, .ref ah), (1, .int x1), (2, .int x2), (3, .int x3), (4, .int x4)] [] ([(ah, .inr (5, [.ref ah_all, .ref ah_kept, .ref ah_history, .int vh_historyLong, .ref ah_slots, .ref ah_isSaved, .ref ah_words, .int vh_groups, .ref ah_left, .int vh_leftLong, .ref ah_seen, .ref ah_text, .int vh_textLong, .int vh_spot, .ref ah_signs, .ref ah_pauses, .int vh_read])), (ah_all, .inl (g.2.1, 120, .inl vh_all)), (ah_words, .inl (g.2.1, 24, .inl vh_words)), (ah_left, .inl (g.2.1, 24, .inl vh_left))]) 0 0 := by
  induction fu with
  | zero => intro vh_historyLong vh_groups vh_leftLong vh_textLong vh_spot vh_read vh_all vh_words vh_left x1 x2 x3 x4 res hf; exact absurd hf (by intro h; cases h)
  | succ fu ih =>
    intro vh_historyLong vh_groups vh_leftLong vh_textLong vh_spot vh_read vh_all vh_words vh_left x1 x2 x3 x4 res hf
    rw [f_X5_parts_L12] at hf
    refine bw_iload 4 dX5_parts_12 rfl ?_
    refine bw_aload_n 0 dX5_parts_14 rfl rfl ?_
    refine bw_gf bkX5 0 0 (by decide) fl_X5_7 rfl rfl dX5_parts_15 ?_
    refine bw_iconst 3 dX5_parts_18 (by decide) ?_
    obtain ⟨h_35, hf⟩ := bw_chk hf
    refine bw_iald 1 rfl h_35 dX5_parts_19 ?_
    refine bw_icmp_ge 122 dX5_parts_20 (by decide) (fun c_36 => ?_) (fun c_36 => ?_)
    · have hf := bw_pos c_36 hf
      refine bw_aload_n 0 dX5_parts_122 rfl rfl ?_
      refine bw_iconst 0 dX5_parts_123 (by decide) ?_
      refine bw_pf bkX5 0 9 ([(ah, .inr (5, [.ref ah_all, .ref ah_kept, .ref ah_history, .int vh_historyLong, .ref ah_slots, .ref ah_isSaved, .ref ah_words, .int vh_groups, .ref ah_left, .int 0, .ref ah_seen, .ref ah_text, .int vh_textLong, .int vh_spot, .ref ah_signs, .ref ah_pauses, .int vh_read])), (ah_all, .inl (g.2.1, 120, .inl vh_all)), (ah_words, .inl (g.2.1, 24, .inl vh_words)), (ah_left, .inl (g.2.1, 24, .inl vh_left))]) (by decide) fl_X5_71 rfl rfl rfl rfl rfl (Nat.le_of_ble_eq_true rfl) rfl dX5_parts_124 ?_
      refine bw_iconst 0 dX5_parts_127 (by decide) ?_
      refine bw_istore [(4, .int 0), (0, .ref ah), (1, .int x1), (2, .int x2), (3, .int x3)] dX5_parts_128 (by decide) rfl ?_
      refine bw_lv [1, 2, 3, 4, 0] rfl ?_
      exact s_X5_parts_L130 l g ah ah_all ah_kept ah_history ah_slots ah_isSaved ah_words ah_left ah_seen ah_text ah_signs ah_pauses bw_F vh_historyLong vh_groups 0 vh_textLong vh_spot vh_read vh_all vh_words vh_left x1 x2 x3 0 _ hf
    · have hf := bw_neg c_36 hf
      refine bw_iinc 2 (x2 + 1) [(2, .int ((x2 + 1))), (0, .ref ah), (1, .int x1), (3, .int x3), (4, .int x4)] dX5_parts_23 rfl rfl (by decide) rfl ?_
      refine bw_iload_n 0 dX5_parts_26 rfl rfl ?_
      refine bw_iconst 3 dX5_parts_27 (by decide) ?_
      refine bw_icmp_le 35 dX5_parts_28 (by decide) (fun c_37 => ?_) (fun c_37 => ?_)
      · have hf := bw_pos c_37 hf
        refine bw_bipush 6 dX5_parts_35 (by decide) ?_
        refine bw_iload_n 3 dX5_parts_37 rfl rfl ?_
        refine bw_imul dX5_parts_38 ?_
        refine bw_aload_n 1 dX5_parts_39 rfl rfl ?_
        refine bw_iload 4 dX5_parts_40 rfl ?_
        refine bw_iload_n 2 dX5_parts_42 rfl rfl ?_
        obtain ⟨q_38, hc_38, hf⟩ := bw_bind hf
        refine bw_callV [.int x4, .int x1] [.int ((6 * x3))] [(ah_words, .inl (g.2.1, 24, .inl vh_words)), (ah_left, .inl (g.2.1, 24, .inl vh_left))] 0 5 (s_X5_signSeen l g ah ah_all ah_kept ah_history ah_slots ah_isSaved ah_words ah_left ah_seen ah_text ah_signs ah_pauses vh_historyLong vh_groups vh_leftLong vh_textLong vh_spot vh_read vh_all x4 x1 _ hc_38) rfl co_X5_signSeen ini_X5 ml_X5_62 im_X5_signSeen se_X5_signSeen ar_X5_signSeen ⟨Nat.le_of_ble_eq_true rfl, Nat.le_of_ble_eq_true rfl⟩ ⟨Nat.le_of_ble_eq_true rfl, Nat.le_of_ble_eq_true rfl⟩ rfl rfl (bw_pick1 4 [0, 1, 2, 3] rfl rfl (by decide)) (Nat.le_of_ble_eq_true rfl) dX5_parts_43 (fun r w1 hq => ?_)
        obtain ⟨rfl, rfl⟩ := hq
        refine bw_perm (ws1 := [(ah, .inr (5, [.ref ah_all, .ref ah_kept, .ref ah_history, .int vh_historyLong, .ref ah_slots, .ref ah_isSaved, .ref ah_words, .int vh_groups, .ref ah_left, .int vh_leftLong, .ref ah_seen, .ref ah_text, .int vh_textLong, .int vh_spot, .ref ah_signs, .ref ah_pauses, .int vh_read])), (ah_all, .inl (g.2.1, 120, .inl vh_all)), (ah_words, .inl (g.2.1, 24, .inl vh_words)), (ah_left, .inl (g.2.1, 24, .inl vh_left))]) (bw_pick1 4 [2, 3, 0, 1] rfl rfl (by decide)) ?_
        refine bw_st (st1 := [.int q_38, .int ((6 * x3))]) rfl ?_
        refine bw_iadd dX5_parts_46 ?_
        refine bw_istore_n [(3, .int (((6 * x3) + q_38))), (2, .int ((x2 + 1))), (0, .ref ah), (1, .int x1), (4, .int x4)] dX5_parts_47 rfl (by decide) rfl ?_
        refine bw_aload_n 2 dX5_parts_48 rfl rfl ?_
        refine bw_iload 4 dX5_parts_49 rfl ?_
        refine bw_iload_n 3 dX5_parts_51 rfl rfl ?_
        obtain ⟨q_39, hc_39, hf⟩ := bw_bind hf
        refine bw_callV [.int x4, .int x1] [] [(ah_words, .inl (g.2.1, 24, .inl vh_words)), (ah_left, .inl (g.2.1, 24, .inl vh_left))] 0 5 (s_X5_endsSeen l g ah ah_all ah_kept ah_history ah_slots ah_isSaved ah_words ah_left ah_seen ah_text ah_signs ah_pauses vh_historyLong vh_groups vh_leftLong vh_textLong vh_spot vh_read vh_all x4 x1 _ hc_39) rfl co_X5_endsSeen ini_X5 ml_X5_66 im_X5_endsSeen se_X5_endsSeen ar_X5_endsSeen ⟨Nat.le_of_ble_eq_true rfl, Nat.le_of_ble_eq_true rfl⟩ ⟨Nat.le_of_ble_eq_true rfl, Nat.le_of_ble_eq_true rfl⟩ rfl rfl (bw_pick1 4 [0, 1, 2, 3] rfl rfl (by decide)) (Nat.le_of_ble_eq_true rfl) dX5_parts_52 (fun r w1 hq => ?_)
        obtain ⟨rfl, rfl⟩ := hq
        refine bw_perm (ws1 := [(ah, .inr (5, [.ref ah_all, .ref ah_kept, .ref ah_history, .int vh_historyLong, .ref ah_slots, .ref ah_isSaved, .ref ah_words, .int vh_groups, .ref ah_left, .int vh_leftLong, .ref ah_seen, .ref ah_text, .int vh_textLong, .int vh_spot, .ref ah_signs, .ref ah_pauses, .int vh_read])), (ah_all, .inl (g.2.1, 120, .inl vh_all)), (ah_words, .inl (g.2.1, 24, .inl vh_words)), (ah_left, .inl (g.2.1, 24, .inl vh_left))]) (bw_pick1 4 [2, 3, 0, 1] rfl rfl (by decide)) ?_
        refine bw_st (st1 := [.int q_39]) rfl ?_
        refine bw_if_eq 116 dX5_parts_55 (by decide) (fun c_40 => ?_) (fun c_40 => ?_)
        · have hf := bw_pos c_40 hf
          refine bw_iinc 4 (x4 + 1) [(4, .int ((x4 + 1))), (3, .int (((6 * x3) + q_38))), (2, .int ((x2 + 1))), (0, .ref ah), (1, .int x1)] dX5_parts_116 rfl rfl (by decide) rfl ?_
          refine bw_goto 12 dX5_parts_119 (by decide) ?_
          refine bw_lv [3, 4, 2, 1, 0] rfl ?_
          exact ih vh_historyLong vh_groups vh_leftLong vh_textLong vh_spot vh_read vh_all vh_words vh_left x1 ((x2 + 1)) (((6 * x3) + q_38)) ((x4 + 1)) _ hf
        · have hf := bw_neg c_40 hf
          refine bw_aload_n 2 dX5_parts_58 rfl rfl ?_
          refine bw_gf bkX5 0 6 (by decide) fl_X5_25 rfl rfl dX5_parts_59 ?_
          refine bw_aload_n 2 dX5_parts_62 rfl rfl ?_
          refine bw_gf bkX5 0 7 (by decide) fl_X5_59 rfl rfl dX5_parts_63 ?_
          refine bw_iload_n 1 dX5_parts_66 rfl rfl ?_
          refine bw_iconst 1 dX5_parts_67 (by decide) ?_
          refine bw_icmp_ne 75 dX5_parts_68 (by decide) (fun c_41 => ?_) (fun c_41 => ?_)
          · have hf := bw_neg c_41 hf
            refine bw_iload_n 1 dX5_parts_75 rfl rfl ?_
            refine bw_iconst 2 dX5_parts_76 (by decide) ?_
            refine bw_icmp_ne 87 dX5_parts_77 (by decide) (fun c_42 => ?_) (fun c_42 => ?_)
            · have hf := bw_neg c_42 hf
              refine bw_iload_n 1 dX5_parts_87 rfl rfl ?_
              refine bw_iconst 3 dX5_parts_88 (by decide) ?_
              refine bw_icmp_ne 99 dX5_parts_89 (by decide) (fun c_43 => ?_) (fun c_43 => ?_)
              · have hf := bw_neg c_43 hf
                refine bw_ldc ct_X5_70 dX5_parts_99 ?_
                obtain ⟨h_44, hf⟩ := bw_chk hf
                refine bw_iast 2 ([(ah, .inr (5, [.ref ah_all, .ref ah_kept, .ref ah_history, .int vh_historyLong, .ref ah_slots, .ref ah_isSaved, .ref ah_words, .int vh_groups, .ref ah_left, .int vh_leftLong, .ref ah_seen, .ref ah_text, .int vh_textLong, .int vh_spot, .ref ah_signs, .ref ah_pauses, .int vh_read])), (ah_all, .inl (g.2.1, 120, .inl vh_all)), (ah_words, .inl (g.2.1, 24, .inl ((upd vh_words (Int32.toNatClampNeg vh_groups) ((-1000006)))))), (ah_left, .inl (g.2.1, 24, .inl vh_left))]) rfl h_44 rfl dX5_parts_101 ?_
                refine bw_aload_n 2 dX5_parts_102 rfl rfl ?_
                refine bw_dup dX5_parts_103 rfl ?_
                refine bw_gf bkX5 0 7 (by decide) fl_X5_59 rfl rfl dX5_parts_104 ?_
                refine bw_iconst 1 dX5_parts_107 (by decide) ?_
                refine bw_iadd dX5_parts_108 ?_
                refine bw_pf bkX5 0 7 ([(ah, .inr (5, [.ref ah_all, .ref ah_kept, .ref ah_history, .int vh_historyLong, .ref ah_slots, .ref ah_isSaved, .ref ah_words, .int ((vh_groups + 1)), .ref ah_left, .int vh_leftLong, .ref ah_seen, .ref ah_text, .int vh_textLong, .int vh_spot, .ref ah_signs, .ref ah_pauses, .int vh_read])), (ah_all, .inl (g.2.1, 120, .inl vh_all)), (ah_words, .inl (g.2.1, 24, .inl ((upd vh_words (Int32.toNatClampNeg vh_groups) ((-1000006)))))), (ah_left, .inl (g.2.1, 24, .inl vh_left))]) (by decide) fl_X5_59 rfl rfl rfl rfl rfl (Nat.le_of_ble_eq_true rfl) rfl dX5_parts_109 ?_
                refine bw_iconst 0 dX5_parts_112 (by decide) ?_
                refine bw_istore_n [(2, .int 0), (3, .int (((6 * x3) + q_38))), (0, .ref ah), (1, .int x1), (4, .int x4)] dX5_parts_113 rfl (by decide) rfl ?_
                refine bw_iconst 0 dX5_parts_114 (by decide) ?_
                refine bw_istore_n [(3, .int 0), (2, .int 0), (0, .ref ah), (1, .int x1), (4, .int x4)] dX5_parts_115 rfl (by decide) rfl ?_
                refine bw_iinc 4 (x4 + 1) [(4, .int ((x4 + 1))), (3, .int 0), (2, .int 0), (0, .ref ah), (1, .int x1)] dX5_parts_116 rfl rfl (by decide) rfl ?_
                refine bw_goto 12 dX5_parts_119 (by decide) ?_
                refine bw_lv [3, 4, 2, 1, 0] rfl ?_
                exact ih vh_historyLong ((vh_groups + 1)) vh_leftLong vh_textLong vh_spot vh_read vh_all ((upd vh_words (Int32.toNatClampNeg vh_groups) ((-1000006)))) vh_left x1 0 0 ((x4 + 1)) _ hf
              · have hf := bw_pos c_43 hf
                refine bw_bipush 42 dX5_parts_92 (by decide) ?_
                refine bw_iload_n 0 dX5_parts_94 rfl rfl ?_
                refine bw_iadd dX5_parts_95 ?_
                refine bw_goto 101 dX5_parts_96 (by decide) ?_
                obtain ⟨h_45, hf⟩ := bw_chk hf
                refine bw_iast 2 ([(ah, .inr (5, [.ref ah_all, .ref ah_kept, .ref ah_history, .int vh_historyLong, .ref ah_slots, .ref ah_isSaved, .ref ah_words, .int vh_groups, .ref ah_left, .int vh_leftLong, .ref ah_seen, .ref ah_text, .int vh_textLong, .int vh_spot, .ref ah_signs, .ref ah_pauses, .int vh_read])), (ah_all, .inl (g.2.1, 120, .inl vh_all)), (ah_words, .inl (g.2.1, 24, .inl ((upd vh_words (Int32.toNatClampNeg vh_groups) ((42 + ((6 * x3) + q_38))))))), (ah_left, .inl (g.2.1, 24, .inl vh_left))]) rfl h_45 rfl dX5_parts_101 ?_
                refine bw_aload_n 2 dX5_parts_102 rfl rfl ?_
                refine bw_dup dX5_parts_103 rfl ?_
                refine bw_gf bkX5 0 7 (by decide) fl_X5_59 rfl rfl dX5_parts_104 ?_
                refine bw_iconst 1 dX5_parts_107 (by decide) ?_
                refine bw_iadd dX5_parts_108 ?_
                refine bw_pf bkX5 0 7 ([(ah, .inr (5, [.ref ah_all, .ref ah_kept, .ref ah_history, .int vh_historyLong, .ref ah_slots, .ref ah_isSaved, .ref ah_words, .int ((vh_groups + 1)), .ref ah_left, .int vh_leftLong, .ref ah_seen, .ref ah_text, .int vh_textLong, .int vh_spot, .ref ah_signs, .ref ah_pauses, .int vh_read])), (ah_all, .inl (g.2.1, 120, .inl vh_all)), (ah_words, .inl (g.2.1, 24, .inl ((upd vh_words (Int32.toNatClampNeg vh_groups) ((42 + ((6 * x3) + q_38))))))), (ah_left, .inl (g.2.1, 24, .inl vh_left))]) (by decide) fl_X5_59 rfl rfl rfl rfl rfl (Nat.le_of_ble_eq_true rfl) rfl dX5_parts_109 ?_
                refine bw_iconst 0 dX5_parts_112 (by decide) ?_
                refine bw_istore_n [(2, .int 0), (3, .int (((6 * x3) + q_38))), (0, .ref ah), (1, .int x1), (4, .int x4)] dX5_parts_113 rfl (by decide) rfl ?_
                refine bw_iconst 0 dX5_parts_114 (by decide) ?_
                refine bw_istore_n [(3, .int 0), (2, .int 0), (0, .ref ah), (1, .int x1), (4, .int x4)] dX5_parts_115 rfl (by decide) rfl ?_
                refine bw_iinc 4 (x4 + 1) [(4, .int ((x4 + 1))), (3, .int 0), (2, .int 0), (0, .ref ah), (1, .int x1)] dX5_parts_116 rfl rfl (by decide) rfl ?_
                refine bw_goto 12 dX5_parts_119 (by decide) ?_
                refine bw_lv [3, 4, 2, 1, 0] rfl ?_
                exact ih vh_historyLong ((vh_groups + 1)) vh_leftLong vh_textLong vh_spot vh_read vh_all ((upd vh_words (Int32.toNatClampNeg vh_groups) ((42 + ((6 * x3) + q_38))))) vh_left x1 0 0 ((x4 + 1)) _ hf
            · have hf := bw_pos c_42 hf
              refine bw_bipush 6 dX5_parts_80 (by decide) ?_
              refine bw_iload_n 0 dX5_parts_82 rfl rfl ?_
              refine bw_iadd dX5_parts_83 ?_
              refine bw_goto 101 dX5_parts_84 (by decide) ?_
              obtain ⟨h_46, hf⟩ := bw_chk hf
              refine bw_iast 2 ([(ah, .inr (5, [.ref ah_all, .ref ah_kept, .ref ah_history, .int vh_historyLong, .ref ah_slots, .ref ah_isSaved, .ref ah_words, .int vh_groups, .ref ah_left, .int vh_leftLong, .ref ah_seen, .ref ah_text, .int vh_textLong, .int vh_spot, .ref ah_signs, .ref ah_pauses, .int vh_read])), (ah_all, .inl (g.2.1, 120, .inl vh_all)), (ah_words, .inl (g.2.1, 24, .inl ((upd vh_words (Int32.toNatClampNeg vh_groups) ((6 + ((6 * x3) + q_38))))))), (ah_left, .inl (g.2.1, 24, .inl vh_left))]) rfl h_46 rfl dX5_parts_101 ?_
              refine bw_aload_n 2 dX5_parts_102 rfl rfl ?_
              refine bw_dup dX5_parts_103 rfl ?_
              refine bw_gf bkX5 0 7 (by decide) fl_X5_59 rfl rfl dX5_parts_104 ?_
              refine bw_iconst 1 dX5_parts_107 (by decide) ?_
              refine bw_iadd dX5_parts_108 ?_
              refine bw_pf bkX5 0 7 ([(ah, .inr (5, [.ref ah_all, .ref ah_kept, .ref ah_history, .int vh_historyLong, .ref ah_slots, .ref ah_isSaved, .ref ah_words, .int ((vh_groups + 1)), .ref ah_left, .int vh_leftLong, .ref ah_seen, .ref ah_text, .int vh_textLong, .int vh_spot, .ref ah_signs, .ref ah_pauses, .int vh_read])), (ah_all, .inl (g.2.1, 120, .inl vh_all)), (ah_words, .inl (g.2.1, 24, .inl ((upd vh_words (Int32.toNatClampNeg vh_groups) ((6 + ((6 * x3) + q_38))))))), (ah_left, .inl (g.2.1, 24, .inl vh_left))]) (by decide) fl_X5_59 rfl rfl rfl rfl rfl (Nat.le_of_ble_eq_true rfl) rfl dX5_parts_109 ?_
              refine bw_iconst 0 dX5_parts_112 (by decide) ?_
              refine bw_istore_n [(2, .int 0), (3, .int (((6 * x3) + q_38))), (0, .ref ah), (1, .int x1), (4, .int x4)] dX5_parts_113 rfl (by decide) rfl ?_
              refine bw_iconst 0 dX5_parts_114 (by decide) ?_
              refine bw_istore_n [(3, .int 0), (2, .int 0), (0, .ref ah), (1, .int x1), (4, .int x4)] dX5_parts_115 rfl (by decide) rfl ?_
              refine bw_iinc 4 (x4 + 1) [(4, .int ((x4 + 1))), (3, .int 0), (2, .int 0), (0, .ref ah), (1, .int x1)] dX5_parts_116 rfl rfl (by decide) rfl ?_
              refine bw_goto 12 dX5_parts_119 (by decide) ?_
              refine bw_lv [3, 4, 2, 1, 0] rfl ?_
              exact ih vh_historyLong ((vh_groups + 1)) vh_leftLong vh_textLong vh_spot vh_read vh_all ((upd vh_words (Int32.toNatClampNeg vh_groups) ((6 + ((6 * x3) + q_38))))) vh_left x1 0 0 ((x4 + 1)) _ hf
          · have hf := bw_pos c_41 hf
            refine bw_iload_n 0 dX5_parts_71 rfl rfl ?_
            refine bw_goto 101 dX5_parts_72 (by decide) ?_
            obtain ⟨h_47, hf⟩ := bw_chk hf
            refine bw_iast 2 ([(ah, .inr (5, [.ref ah_all, .ref ah_kept, .ref ah_history, .int vh_historyLong, .ref ah_slots, .ref ah_isSaved, .ref ah_words, .int vh_groups, .ref ah_left, .int vh_leftLong, .ref ah_seen, .ref ah_text, .int vh_textLong, .int vh_spot, .ref ah_signs, .ref ah_pauses, .int vh_read])), (ah_all, .inl (g.2.1, 120, .inl vh_all)), (ah_words, .inl (g.2.1, 24, .inl ((upd vh_words (Int32.toNatClampNeg vh_groups) (((6 * x3) + q_38)))))), (ah_left, .inl (g.2.1, 24, .inl vh_left))]) rfl h_47 rfl dX5_parts_101 ?_
            refine bw_aload_n 2 dX5_parts_102 rfl rfl ?_
            refine bw_dup dX5_parts_103 rfl ?_
            refine bw_gf bkX5 0 7 (by decide) fl_X5_59 rfl rfl dX5_parts_104 ?_
            refine bw_iconst 1 dX5_parts_107 (by decide) ?_
            refine bw_iadd dX5_parts_108 ?_
            refine bw_pf bkX5 0 7 ([(ah, .inr (5, [.ref ah_all, .ref ah_kept, .ref ah_history, .int vh_historyLong, .ref ah_slots, .ref ah_isSaved, .ref ah_words, .int ((vh_groups + 1)), .ref ah_left, .int vh_leftLong, .ref ah_seen, .ref ah_text, .int vh_textLong, .int vh_spot, .ref ah_signs, .ref ah_pauses, .int vh_read])), (ah_all, .inl (g.2.1, 120, .inl vh_all)), (ah_words, .inl (g.2.1, 24, .inl ((upd vh_words (Int32.toNatClampNeg vh_groups) (((6 * x3) + q_38)))))), (ah_left, .inl (g.2.1, 24, .inl vh_left))]) (by decide) fl_X5_59 rfl rfl rfl rfl rfl (Nat.le_of_ble_eq_true rfl) rfl dX5_parts_109 ?_
            refine bw_iconst 0 dX5_parts_112 (by decide) ?_
            refine bw_istore_n [(2, .int 0), (3, .int (((6 * x3) + q_38))), (0, .ref ah), (1, .int x1), (4, .int x4)] dX5_parts_113 rfl (by decide) rfl ?_
            refine bw_iconst 0 dX5_parts_114 (by decide) ?_
            refine bw_istore_n [(3, .int 0), (2, .int 0), (0, .ref ah), (1, .int x1), (4, .int x4)] dX5_parts_115 rfl (by decide) rfl ?_
            refine bw_iinc 4 (x4 + 1) [(4, .int ((x4 + 1))), (3, .int 0), (2, .int 0), (0, .ref ah), (1, .int x1)] dX5_parts_116 rfl rfl (by decide) rfl ?_
            refine bw_goto 12 dX5_parts_119 (by decide) ?_
            refine bw_lv [3, 4, 2, 1, 0] rfl ?_
            exact ih vh_historyLong ((vh_groups + 1)) vh_leftLong vh_textLong vh_spot vh_read vh_all ((upd vh_words (Int32.toNatClampNeg vh_groups) (((6 * x3) + q_38)))) vh_left x1 0 0 ((x4 + 1)) _ hf
      · have hf := bw_neg c_37 hf
        refine bw_iconst 0 dX5_parts_31 (by decide) ?_
        refine bw_goto 47 dX5_parts_32 (by decide) ?_
        refine bw_istore_n [(3, .int 0), (2, .int ((x2 + 1))), (0, .ref ah), (1, .int x1), (4, .int x4)] dX5_parts_47 rfl (by decide) rfl ?_
        refine bw_aload_n 2 dX5_parts_48 rfl rfl ?_
        refine bw_iload 4 dX5_parts_49 rfl ?_
        refine bw_iload_n 3 dX5_parts_51 rfl rfl ?_
        obtain ⟨q_48, hc_48, hf⟩ := bw_bind hf
        refine bw_callV [.int x4, .int x1] [] [(ah_words, .inl (g.2.1, 24, .inl vh_words)), (ah_left, .inl (g.2.1, 24, .inl vh_left))] 0 5 (s_X5_endsSeen l g ah ah_all ah_kept ah_history ah_slots ah_isSaved ah_words ah_left ah_seen ah_text ah_signs ah_pauses vh_historyLong vh_groups vh_leftLong vh_textLong vh_spot vh_read vh_all x4 x1 _ hc_48) rfl co_X5_endsSeen ini_X5 ml_X5_66 im_X5_endsSeen se_X5_endsSeen ar_X5_endsSeen ⟨Nat.le_of_ble_eq_true rfl, Nat.le_of_ble_eq_true rfl⟩ ⟨Nat.le_of_ble_eq_true rfl, Nat.le_of_ble_eq_true rfl⟩ rfl rfl (bw_pick1 4 [0, 1, 2, 3] rfl rfl (by decide)) (Nat.le_of_ble_eq_true rfl) dX5_parts_52 (fun r w1 hq => ?_)
        obtain ⟨rfl, rfl⟩ := hq
        refine bw_perm (ws1 := [(ah, .inr (5, [.ref ah_all, .ref ah_kept, .ref ah_history, .int vh_historyLong, .ref ah_slots, .ref ah_isSaved, .ref ah_words, .int vh_groups, .ref ah_left, .int vh_leftLong, .ref ah_seen, .ref ah_text, .int vh_textLong, .int vh_spot, .ref ah_signs, .ref ah_pauses, .int vh_read])), (ah_all, .inl (g.2.1, 120, .inl vh_all)), (ah_words, .inl (g.2.1, 24, .inl vh_words)), (ah_left, .inl (g.2.1, 24, .inl vh_left))]) (bw_pick1 4 [2, 3, 0, 1] rfl rfl (by decide)) ?_
        refine bw_st (st1 := [.int q_48]) rfl ?_
        refine bw_if_eq 116 dX5_parts_55 (by decide) (fun c_49 => ?_) (fun c_49 => ?_)
        · have hf := bw_pos c_49 hf
          refine bw_iinc 4 (x4 + 1) [(4, .int ((x4 + 1))), (3, .int 0), (2, .int ((x2 + 1))), (0, .ref ah), (1, .int x1)] dX5_parts_116 rfl rfl (by decide) rfl ?_
          refine bw_goto 12 dX5_parts_119 (by decide) ?_
          refine bw_lv [3, 4, 2, 1, 0] rfl ?_
          exact ih vh_historyLong vh_groups vh_leftLong vh_textLong vh_spot vh_read vh_all vh_words vh_left x1 ((x2 + 1)) 0 ((x4 + 1)) _ hf
        · have hf := bw_neg c_49 hf
          refine bw_aload_n 2 dX5_parts_58 rfl rfl ?_
          refine bw_gf bkX5 0 6 (by decide) fl_X5_25 rfl rfl dX5_parts_59 ?_
          refine bw_aload_n 2 dX5_parts_62 rfl rfl ?_
          refine bw_gf bkX5 0 7 (by decide) fl_X5_59 rfl rfl dX5_parts_63 ?_
          refine bw_iload_n 1 dX5_parts_66 rfl rfl ?_
          refine bw_iconst 1 dX5_parts_67 (by decide) ?_
          refine bw_icmp_ne 75 dX5_parts_68 (by decide) (fun c_50 => ?_) (fun c_50 => ?_)
          · have hf := bw_neg c_50 hf
            refine bw_iload_n 1 dX5_parts_75 rfl rfl ?_
            refine bw_iconst 2 dX5_parts_76 (by decide) ?_
            refine bw_icmp_ne 87 dX5_parts_77 (by decide) (fun c_51 => ?_) (fun c_51 => ?_)
            · have hf := bw_neg c_51 hf
              refine bw_iload_n 1 dX5_parts_87 rfl rfl ?_
              refine bw_iconst 3 dX5_parts_88 (by decide) ?_
              refine bw_icmp_ne 99 dX5_parts_89 (by decide) (fun c_52 => ?_) (fun c_52 => ?_)
              · have hf := bw_neg c_52 hf
                refine bw_ldc ct_X5_70 dX5_parts_99 ?_
                obtain ⟨h_53, hf⟩ := bw_chk hf
                refine bw_iast 2 ([(ah, .inr (5, [.ref ah_all, .ref ah_kept, .ref ah_history, .int vh_historyLong, .ref ah_slots, .ref ah_isSaved, .ref ah_words, .int vh_groups, .ref ah_left, .int vh_leftLong, .ref ah_seen, .ref ah_text, .int vh_textLong, .int vh_spot, .ref ah_signs, .ref ah_pauses, .int vh_read])), (ah_all, .inl (g.2.1, 120, .inl vh_all)), (ah_words, .inl (g.2.1, 24, .inl ((upd vh_words (Int32.toNatClampNeg vh_groups) ((-1000006)))))), (ah_left, .inl (g.2.1, 24, .inl vh_left))]) rfl h_53 rfl dX5_parts_101 ?_
                refine bw_aload_n 2 dX5_parts_102 rfl rfl ?_
                refine bw_dup dX5_parts_103 rfl ?_
                refine bw_gf bkX5 0 7 (by decide) fl_X5_59 rfl rfl dX5_parts_104 ?_
                refine bw_iconst 1 dX5_parts_107 (by decide) ?_
                refine bw_iadd dX5_parts_108 ?_
                refine bw_pf bkX5 0 7 ([(ah, .inr (5, [.ref ah_all, .ref ah_kept, .ref ah_history, .int vh_historyLong, .ref ah_slots, .ref ah_isSaved, .ref ah_words, .int ((vh_groups + 1)), .ref ah_left, .int vh_leftLong, .ref ah_seen, .ref ah_text, .int vh_textLong, .int vh_spot, .ref ah_signs, .ref ah_pauses, .int vh_read])), (ah_all, .inl (g.2.1, 120, .inl vh_all)), (ah_words, .inl (g.2.1, 24, .inl ((upd vh_words (Int32.toNatClampNeg vh_groups) ((-1000006)))))), (ah_left, .inl (g.2.1, 24, .inl vh_left))]) (by decide) fl_X5_59 rfl rfl rfl rfl rfl (Nat.le_of_ble_eq_true rfl) rfl dX5_parts_109 ?_
                refine bw_iconst 0 dX5_parts_112 (by decide) ?_
                refine bw_istore_n [(2, .int 0), (3, .int 0), (0, .ref ah), (1, .int x1), (4, .int x4)] dX5_parts_113 rfl (by decide) rfl ?_
                refine bw_iconst 0 dX5_parts_114 (by decide) ?_
                refine bw_istore_n [(3, .int 0), (2, .int 0), (0, .ref ah), (1, .int x1), (4, .int x4)] dX5_parts_115 rfl (by decide) rfl ?_
                refine bw_iinc 4 (x4 + 1) [(4, .int ((x4 + 1))), (3, .int 0), (2, .int 0), (0, .ref ah), (1, .int x1)] dX5_parts_116 rfl rfl (by decide) rfl ?_
                refine bw_goto 12 dX5_parts_119 (by decide) ?_
                refine bw_lv [3, 4, 2, 1, 0] rfl ?_
                exact ih vh_historyLong ((vh_groups + 1)) vh_leftLong vh_textLong vh_spot vh_read vh_all ((upd vh_words (Int32.toNatClampNeg vh_groups) ((-1000006)))) vh_left x1 0 0 ((x4 + 1)) _ hf
              · have hf := bw_pos c_52 hf
                refine bw_bipush 42 dX5_parts_92 (by decide) ?_
                refine bw_iload_n 0 dX5_parts_94 rfl rfl ?_
                refine bw_iadd dX5_parts_95 ?_
                refine bw_goto 101 dX5_parts_96 (by decide) ?_
                obtain ⟨h_54, hf⟩ := bw_chk hf
                refine bw_iast 2 ([(ah, .inr (5, [.ref ah_all, .ref ah_kept, .ref ah_history, .int vh_historyLong, .ref ah_slots, .ref ah_isSaved, .ref ah_words, .int vh_groups, .ref ah_left, .int vh_leftLong, .ref ah_seen, .ref ah_text, .int vh_textLong, .int vh_spot, .ref ah_signs, .ref ah_pauses, .int vh_read])), (ah_all, .inl (g.2.1, 120, .inl vh_all)), (ah_words, .inl (g.2.1, 24, .inl ((upd vh_words (Int32.toNatClampNeg vh_groups) ((42 + 0)))))), (ah_left, .inl (g.2.1, 24, .inl vh_left))]) rfl h_54 rfl dX5_parts_101 ?_
                refine bw_aload_n 2 dX5_parts_102 rfl rfl ?_
                refine bw_dup dX5_parts_103 rfl ?_
                refine bw_gf bkX5 0 7 (by decide) fl_X5_59 rfl rfl dX5_parts_104 ?_
                refine bw_iconst 1 dX5_parts_107 (by decide) ?_
                refine bw_iadd dX5_parts_108 ?_
                refine bw_pf bkX5 0 7 ([(ah, .inr (5, [.ref ah_all, .ref ah_kept, .ref ah_history, .int vh_historyLong, .ref ah_slots, .ref ah_isSaved, .ref ah_words, .int ((vh_groups + 1)), .ref ah_left, .int vh_leftLong, .ref ah_seen, .ref ah_text, .int vh_textLong, .int vh_spot, .ref ah_signs, .ref ah_pauses, .int vh_read])), (ah_all, .inl (g.2.1, 120, .inl vh_all)), (ah_words, .inl (g.2.1, 24, .inl ((upd vh_words (Int32.toNatClampNeg vh_groups) ((42 + 0)))))), (ah_left, .inl (g.2.1, 24, .inl vh_left))]) (by decide) fl_X5_59 rfl rfl rfl rfl rfl (Nat.le_of_ble_eq_true rfl) rfl dX5_parts_109 ?_
                refine bw_iconst 0 dX5_parts_112 (by decide) ?_
                refine bw_istore_n [(2, .int 0), (3, .int 0), (0, .ref ah), (1, .int x1), (4, .int x4)] dX5_parts_113 rfl (by decide) rfl ?_
                refine bw_iconst 0 dX5_parts_114 (by decide) ?_
                refine bw_istore_n [(3, .int 0), (2, .int 0), (0, .ref ah), (1, .int x1), (4, .int x4)] dX5_parts_115 rfl (by decide) rfl ?_
                refine bw_iinc 4 (x4 + 1) [(4, .int ((x4 + 1))), (3, .int 0), (2, .int 0), (0, .ref ah), (1, .int x1)] dX5_parts_116 rfl rfl (by decide) rfl ?_
                refine bw_goto 12 dX5_parts_119 (by decide) ?_
                refine bw_lv [3, 4, 2, 1, 0] rfl ?_
                exact ih vh_historyLong ((vh_groups + 1)) vh_leftLong vh_textLong vh_spot vh_read vh_all ((upd vh_words (Int32.toNatClampNeg vh_groups) ((42 + 0)))) vh_left x1 0 0 ((x4 + 1)) _ hf
            · have hf := bw_pos c_51 hf
              refine bw_bipush 6 dX5_parts_80 (by decide) ?_
              refine bw_iload_n 0 dX5_parts_82 rfl rfl ?_
              refine bw_iadd dX5_parts_83 ?_
              refine bw_goto 101 dX5_parts_84 (by decide) ?_
              obtain ⟨h_55, hf⟩ := bw_chk hf
              refine bw_iast 2 ([(ah, .inr (5, [.ref ah_all, .ref ah_kept, .ref ah_history, .int vh_historyLong, .ref ah_slots, .ref ah_isSaved, .ref ah_words, .int vh_groups, .ref ah_left, .int vh_leftLong, .ref ah_seen, .ref ah_text, .int vh_textLong, .int vh_spot, .ref ah_signs, .ref ah_pauses, .int vh_read])), (ah_all, .inl (g.2.1, 120, .inl vh_all)), (ah_words, .inl (g.2.1, 24, .inl ((upd vh_words (Int32.toNatClampNeg vh_groups) ((6 + 0)))))), (ah_left, .inl (g.2.1, 24, .inl vh_left))]) rfl h_55 rfl dX5_parts_101 ?_
              refine bw_aload_n 2 dX5_parts_102 rfl rfl ?_
              refine bw_dup dX5_parts_103 rfl ?_
              refine bw_gf bkX5 0 7 (by decide) fl_X5_59 rfl rfl dX5_parts_104 ?_
              refine bw_iconst 1 dX5_parts_107 (by decide) ?_
              refine bw_iadd dX5_parts_108 ?_
              refine bw_pf bkX5 0 7 ([(ah, .inr (5, [.ref ah_all, .ref ah_kept, .ref ah_history, .int vh_historyLong, .ref ah_slots, .ref ah_isSaved, .ref ah_words, .int ((vh_groups + 1)), .ref ah_left, .int vh_leftLong, .ref ah_seen, .ref ah_text, .int vh_textLong, .int vh_spot, .ref ah_signs, .ref ah_pauses, .int vh_read])), (ah_all, .inl (g.2.1, 120, .inl vh_all)), (ah_words, .inl (g.2.1, 24, .inl ((upd vh_words (Int32.toNatClampNeg vh_groups) ((6 + 0)))))), (ah_left, .inl (g.2.1, 24, .inl vh_left))]) (by decide) fl_X5_59 rfl rfl rfl rfl rfl (Nat.le_of_ble_eq_true rfl) rfl dX5_parts_109 ?_
              refine bw_iconst 0 dX5_parts_112 (by decide) ?_
              refine bw_istore_n [(2, .int 0), (3, .int 0), (0, .ref ah), (1, .int x1), (4, .int x4)] dX5_parts_113 rfl (by decide) rfl ?_
              refine bw_iconst 0 dX5_parts_114 (by decide) ?_
              refine bw_istore_n [(3, .int 0), (2, .int 0), (0, .ref ah), (1, .int x1), (4, .int x4)] dX5_parts_115 rfl (by decide) rfl ?_
              refine bw_iinc 4 (x4 + 1) [(4, .int ((x4 + 1))), (3, .int 0), (2, .int 0), (0, .ref ah), (1, .int x1)] dX5_parts_116 rfl rfl (by decide) rfl ?_
              refine bw_goto 12 dX5_parts_119 (by decide) ?_
              refine bw_lv [3, 4, 2, 1, 0] rfl ?_
              exact ih vh_historyLong ((vh_groups + 1)) vh_leftLong vh_textLong vh_spot vh_read vh_all ((upd vh_words (Int32.toNatClampNeg vh_groups) ((6 + 0)))) vh_left x1 0 0 ((x4 + 1)) _ hf
          · have hf := bw_pos c_50 hf
            refine bw_iload_n 0 dX5_parts_71 rfl rfl ?_
            refine bw_goto 101 dX5_parts_72 (by decide) ?_
            obtain ⟨h_56, hf⟩ := bw_chk hf
            refine bw_iast 2 ([(ah, .inr (5, [.ref ah_all, .ref ah_kept, .ref ah_history, .int vh_historyLong, .ref ah_slots, .ref ah_isSaved, .ref ah_words, .int vh_groups, .ref ah_left, .int vh_leftLong, .ref ah_seen, .ref ah_text, .int vh_textLong, .int vh_spot, .ref ah_signs, .ref ah_pauses, .int vh_read])), (ah_all, .inl (g.2.1, 120, .inl vh_all)), (ah_words, .inl (g.2.1, 24, .inl ((upd vh_words (Int32.toNatClampNeg vh_groups) 0)))), (ah_left, .inl (g.2.1, 24, .inl vh_left))]) rfl h_56 rfl dX5_parts_101 ?_
            refine bw_aload_n 2 dX5_parts_102 rfl rfl ?_
            refine bw_dup dX5_parts_103 rfl ?_
            refine bw_gf bkX5 0 7 (by decide) fl_X5_59 rfl rfl dX5_parts_104 ?_
            refine bw_iconst 1 dX5_parts_107 (by decide) ?_
            refine bw_iadd dX5_parts_108 ?_
            refine bw_pf bkX5 0 7 ([(ah, .inr (5, [.ref ah_all, .ref ah_kept, .ref ah_history, .int vh_historyLong, .ref ah_slots, .ref ah_isSaved, .ref ah_words, .int ((vh_groups + 1)), .ref ah_left, .int vh_leftLong, .ref ah_seen, .ref ah_text, .int vh_textLong, .int vh_spot, .ref ah_signs, .ref ah_pauses, .int vh_read])), (ah_all, .inl (g.2.1, 120, .inl vh_all)), (ah_words, .inl (g.2.1, 24, .inl ((upd vh_words (Int32.toNatClampNeg vh_groups) 0)))), (ah_left, .inl (g.2.1, 24, .inl vh_left))]) (by decide) fl_X5_59 rfl rfl rfl rfl rfl (Nat.le_of_ble_eq_true rfl) rfl dX5_parts_109 ?_
            refine bw_iconst 0 dX5_parts_112 (by decide) ?_
            refine bw_istore_n [(2, .int 0), (3, .int 0), (0, .ref ah), (1, .int x1), (4, .int x4)] dX5_parts_113 rfl (by decide) rfl ?_
            refine bw_iconst 0 dX5_parts_114 (by decide) ?_
            refine bw_istore_n [(3, .int 0), (2, .int 0), (0, .ref ah), (1, .int x1), (4, .int x4)] dX5_parts_115 rfl (by decide) rfl ?_
            refine bw_iinc 4 (x4 + 1) [(4, .int ((x4 + 1))), (3, .int 0), (2, .int 0), (0, .ref ah), (1, .int x1)] dX5_parts_116 rfl rfl (by decide) rfl ?_
            refine bw_goto 12 dX5_parts_119 (by decide) ?_
            refine bw_lv [3, 4, 2, 1, 0] rfl ?_
            exact ih vh_historyLong ((vh_groups + 1)) vh_leftLong vh_textLong vh_spot vh_read vh_all ((upd vh_words (Int32.toNatClampNeg vh_groups) 0)) vh_left x1 0 0 ((x4 + 1)) _ hf
theorem ar_X5_parts : yX5_parts.cls ≠ "java/lang/invoke/MethodHandle" ∧ yX5_parts.cls ≠ "java/lang/invoke/VarHandle" ∧ (parseMethodDescriptor yX5_parts.desc).map (fun d => d.parameters.length) = some 1 := ⟨by decide, by decide, by decide +kernel⟩
def f_X5_parts (vh_groups : Int32) (vh_leftLong : Int32) (vh_all : Nat → Int32) (vh_words : Nat → Int32) (vh_left : Nat → Int32) (p0 : Int32) : Option ((Int32) × (Int32) × (Nat → Int32) × (Nat → Int32)) := (f_X5_parts_L12 bw_F 0 vh_leftLong vh_all vh_words vh_left p0 0 0 0)
set_option maxHeartbeats 4000000 in
set_option maxRecDepth 100000 in
theorem s_X5_parts (l : Launch) (g : bwG) (ah ah_all ah_kept ah_history ah_slots ah_isSaved ah_words ah_left ah_seen ah_text ah_signs ah_pauses : Nat) (vh_historyLong : Int32) (vh_groups : Int32) (vh_leftLong : Int32) (vh_textLong : Int32) (vh_spot : Int32) (vh_read : Int32) (vh_all : Nat → Int32) (vh_words : Nat → Int32) (vh_left : Nat → Int32) (p0 : Int32) (res : (Int32) × (Int32) × (Nat → Int32) × (Nat → Int32)) (hf : f_X5_parts vh_groups vh_leftLong vh_all vh_words vh_left p0 = some res) : bwS l g yX5_parts cX5_parts 5 none ({ frames := 1, cells := 0, slots := 0, locals := 23 } : Room) [.ref ah, .int p0] ([(ah, .inr (5, [.ref ah_all, .ref ah_kept, .ref ah_history, .int vh_historyLong, .ref ah_slots, .ref ah_isSaved, .ref ah_words, .int vh_groups, .ref ah_left, .int vh_leftLong, .ref ah_seen, .ref ah_text, .int vh_textLong, .int vh_spot, .ref ah_signs, .ref ah_pauses, .int vh_read])), (ah_all, .inl (g.2.1, 120, .inl vh_all)), (ah_words, .inl (g.2.1, 24, .inl vh_words)), (ah_left, .inl (g.2.1, 24, .inl vh_left))]) (fun r w => r = none ∧ w = [(ah, .inr (5, [.ref ah_all, .ref ah_kept, .ref ah_history, .int vh_historyLong, .ref ah_slots, .ref ah_isSaved, .ref ah_words, .int res.1, .ref ah_left, .int res.2.1, .ref ah_seen, .ref ah_text, .int vh_textLong, .int vh_spot, .ref ah_signs, .ref ah_pauses, .int vh_read])), (ah_all, .inl (g.2.1, 120, .inl vh_all)), (ah_words, .inl (g.2.1, 24, .inl res.2.2.1)), (ah_left, .inl (g.2.1, 24, .inl res.2.2.2))]) := by
  refine bwS_of (by decide) (Nat.le_of_ble_eq_true rfl) ?_
  unfold f_X5_parts at hf
  show bwR l g cX5_parts 5 RX5 "parts" none ({ frames := 1, cells := 0, slots := 0, locals := 23 } : Room) bwT (bwZ g (fun r w => r = none ∧ w = [(ah, .inr (5, [.ref ah_all, .ref ah_kept, .ref ah_history, .int vh_historyLong, .ref ah_slots, .ref ah_isSaved, .ref ah_words, .int res.1, .ref ah_left, .int res.2.1, .ref ah_seen, .ref ah_text, .int vh_textLong, .int vh_spot, .ref ah_signs, .ref ah_pauses, .int vh_read])), (ah_all, .inl (g.2.1, 120, .inl vh_all)), (ah_words, .inl (g.2.1, 24, .inl res.2.2.1)), (ah_left, .inl (g.2.1, 24, .inl res.2.2.2))]) 0 0) 0 [(0, .ref ah), (1, .int p0)] [] ([(ah, .inr (5, [.ref ah_all, .ref ah_kept, .ref ah_history, .int vh_historyLong, .ref ah_slots, .ref ah_isSaved, .ref ah_words, .int vh_groups, .ref ah_left, .int vh_leftLong, .ref ah_seen, .ref ah_text, .int vh_textLong, .int vh_spot, .ref ah_signs, .ref ah_pauses, .int vh_read])), (ah_all, .inl (g.2.1, 120, .inl vh_all)), (ah_words, .inl (g.2.1, 24, .inl vh_words)), (ah_left, .inl (g.2.1, 24, .inl vh_left))]) 0 0
  refine bw_aload_n 0 dX5_parts_0 rfl rfl ?_
  refine bw_iconst 0 dX5_parts_1 (by decide) ?_
  refine bw_pf bkX5 0 7 ([(ah, .inr (5, [.ref ah_all, .ref ah_kept, .ref ah_history, .int vh_historyLong, .ref ah_slots, .ref ah_isSaved, .ref ah_words, .int 0, .ref ah_left, .int vh_leftLong, .ref ah_seen, .ref ah_text, .int vh_textLong, .int vh_spot, .ref ah_signs, .ref ah_pauses, .int vh_read])), (ah_all, .inl (g.2.1, 120, .inl vh_all)), (ah_words, .inl (g.2.1, 24, .inl vh_words)), (ah_left, .inl (g.2.1, 24, .inl vh_left))]) (by decide) fl_X5_59 rfl rfl rfl rfl rfl (Nat.le_of_ble_eq_true rfl) rfl dX5_parts_2 ?_
  refine bw_iconst 0 dX5_parts_5 (by decide) ?_
  refine bw_istore_n [(2, .int 0), (0, .ref ah), (1, .int p0)] dX5_parts_6 rfl (by decide) rfl ?_
  refine bw_iconst 0 dX5_parts_7 (by decide) ?_
  refine bw_istore_n [(3, .int 0), (2, .int 0), (0, .ref ah), (1, .int p0)] dX5_parts_8 rfl (by decide) rfl ?_
  refine bw_iconst 0 dX5_parts_9 (by decide) ?_
  refine bw_istore [(4, .int 0), (3, .int 0), (2, .int 0), (0, .ref ah), (1, .int p0)] dX5_parts_10 (by decide) rfl ?_
  refine bw_lv [3, 4, 2, 1, 0] rfl ?_
  exact s_X5_parts_L12 l g ah ah_all ah_kept ah_history ah_slots ah_isSaved ah_words ah_left ah_seen ah_text ah_signs ah_pauses bw_F vh_historyLong 0 vh_leftLong vh_textLong vh_spot vh_read vh_all vh_words vh_left p0 0 0 0 _ hf
def f_X5_isTooLong_L4 : Nat → (Int32) → (Nat → Int32) → (Int32) → (Int32) → Option (Int32)
  | 0, _, _, _, _ => none
  | fu + 1, vh_groups, vh_words, x1, x2 => (if vh_groups ≤ x2 then (if bw_nb x1 then some x1 else none) else (if x1 = 0 then (if bw_in x2 24 then (if (vh_words (Int32.toNatClampNeg x2)) = (-1000006) then (f_X5_isTooLong_L4 fu vh_groups vh_words 1 ((x2 + 1))) else (f_X5_isTooLong_L4 fu vh_groups vh_words 0 ((x2 + 1)))) else none) else (f_X5_isTooLong_L4 fu vh_groups vh_words 1 ((x2 + 1)))))
set_option maxHeartbeats 4000000 in
set_option maxRecDepth 100000 in
theorem s_X5_isTooLong_L4 (l : Launch) (g : bwG) (ah ah_all ah_kept ah_history ah_slots ah_isSaved ah_words ah_left ah_seen ah_text ah_signs ah_pauses : Nat) (fu : Nat) : ∀ (vh_historyLong : Int32) (vh_groups : Int32) (vh_leftLong : Int32) (vh_textLong : Int32) (vh_spot : Int32) (vh_read : Int32) (vh_words : Nat → Int32) (x1 : Int32) (x2 : Int32) (res : Int32), f_X5_isTooLong_L4 fu vh_groups vh_words x1 x2 = some res → bwR l g cX5_isTooLong 3 RX5 "isTooLong" (some .boolean) ({ frames := 0, cells := 0, slots := 0, locals := 0 } : Room) bwT (bwZ g (fun r w => r = some (.int res) ∧ w = [(ah, .inr (5, [.ref ah_all, .ref ah_kept, .ref ah_history, .int vh_historyLong, .ref ah_slots, .ref ah_isSaved, .ref ah_words, .int vh_groups, .ref ah_left, .int vh_leftLong, .ref ah_seen, .ref ah_text, .int vh_textLong, .int vh_spot, .ref ah_signs, .ref ah_pauses, .int vh_read])), (ah_words, .inl (g.2.1, 24, .inl vh_words))]) 0 0) 4 [(0, .ref ah), (1, .int x1), (2, .int x2)] [] ([(ah, .inr (5, [.ref ah_all, .ref ah_kept, .ref ah_history, .int vh_historyLong, .ref ah_slots, .ref ah_isSaved, .ref ah_words, .int vh_groups, .ref ah_left, .int vh_leftLong, .ref ah_seen, .ref ah_text, .int vh_textLong, .int vh_spot, .ref ah_signs, .ref ah_pauses, .int vh_read])), (ah_words, .inl (g.2.1, 24, .inl vh_words))]) 0 0 := by
  induction fu with
  | zero => intro vh_historyLong vh_groups vh_leftLong vh_textLong vh_spot vh_read vh_words x1 x2 res hf; exact absurd hf (by intro h; cases h)
  | succ fu ih =>
    intro vh_historyLong vh_groups vh_leftLong vh_textLong vh_spot vh_read vh_words x1 x2 res hf
    rw [f_X5_isTooLong_L4] at hf
    refine bw_iload_n 2 dX5_isTooLong_4 rfl rfl ?_
    refine bw_aload_n 0 dX5_isTooLong_5 rfl rfl ?_
    refine bw_gf bkX5 0 7 (by decide) fl_X5_59 rfl rfl dX5_isTooLong_6 ?_
    refine bw_icmp_ge 39 dX5_isTooLong_9 (by decide) (fun c_6 => ?_) (fun c_6 => ?_)
    · have hf := bw_pos c_6 hf
      refine bw_iload_n 1 dX5_isTooLong_39 rfl rfl ?_
      obtain ⟨h_7, hf⟩ := bw_chk hf
      cases Option.some.inj hf
      exact bw_ret rfl (bw_nbp h_7) (Nat.le_of_ble_eq_true rfl) (Nat.le_of_ble_eq_true rfl) dX5_isTooLong_40 ⟨rfl, rfl⟩
    · have hf := bw_neg c_6 hf
      refine bw_iload_n 1 dX5_isTooLong_12 rfl rfl ?_
      refine bw_if_ne 27 dX5_isTooLong_13 (by decide) (fun c_8 => ?_) (fun c_8 => ?_)
      · have hf := bw_neg c_8 hf
        refine bw_iconst 1 dX5_isTooLong_27 (by decide) ?_
        refine bw_goto 32 dX5_isTooLong_28 (by decide) ?_
        refine bw_istore_n [(1, .int 1), (0, .ref ah), (2, .int x2)] dX5_isTooLong_32 rfl (by decide) rfl ?_
        refine bw_iinc 2 (x2 + 1) [(2, .int ((x2 + 1))), (1, .int 1), (0, .ref ah)] dX5_isTooLong_33 rfl rfl (by decide) rfl ?_
        refine bw_goto 4 dX5_isTooLong_36 (by decide) ?_
        refine bw_lv [2, 1, 0] rfl ?_
        exact ih vh_historyLong vh_groups vh_leftLong vh_textLong vh_spot vh_read vh_words 1 ((x2 + 1)) _ hf
      · have hf := bw_pos c_8 hf
        refine bw_aload_n 0 dX5_isTooLong_16 rfl rfl ?_
        refine bw_gf bkX5 0 6 (by decide) fl_X5_25 rfl rfl dX5_isTooLong_17 ?_
        refine bw_iload_n 2 dX5_isTooLong_20 rfl rfl ?_
        obtain ⟨h_9, hf⟩ := bw_chk hf
        refine bw_iald 1 rfl h_9 dX5_isTooLong_21 ?_
        refine bw_ldc ct_X5_70 dX5_isTooLong_22 ?_
        refine bw_icmp_ne 31 dX5_isTooLong_24 (by decide) (fun c_10 => ?_) (fun c_10 => ?_)
        · have hf := bw_neg c_10 hf
          refine bw_iconst 0 dX5_isTooLong_31 (by decide) ?_
          refine bw_istore_n [(1, .int 0), (0, .ref ah), (2, .int x2)] dX5_isTooLong_32 rfl (by decide) rfl ?_
          refine bw_iinc 2 (x2 + 1) [(2, .int ((x2 + 1))), (1, .int 0), (0, .ref ah)] dX5_isTooLong_33 rfl rfl (by decide) rfl ?_
          refine bw_goto 4 dX5_isTooLong_36 (by decide) ?_
          refine bw_lv [2, 1, 0] rfl ?_
          exact ih vh_historyLong vh_groups vh_leftLong vh_textLong vh_spot vh_read vh_words 0 ((x2 + 1)) _ hf
        · have hf := bw_pos c_10 hf
          refine bw_iconst 1 dX5_isTooLong_27 (by decide) ?_
          refine bw_goto 32 dX5_isTooLong_28 (by decide) ?_
          refine bw_istore_n [(1, .int 1), (0, .ref ah), (2, .int x2)] dX5_isTooLong_32 rfl (by decide) rfl ?_
          refine bw_iinc 2 (x2 + 1) [(2, .int ((x2 + 1))), (1, .int 1), (0, .ref ah)] dX5_isTooLong_33 rfl rfl (by decide) rfl ?_
          refine bw_goto 4 dX5_isTooLong_36 (by decide) ?_
          refine bw_lv [2, 1, 0] rfl ?_
          exact ih vh_historyLong vh_groups vh_leftLong vh_textLong vh_spot vh_read vh_words 1 ((x2 + 1)) _ hf
theorem ar_X5_isTooLong : yX5_isTooLong.cls ≠ "java/lang/invoke/MethodHandle" ∧ yX5_isTooLong.cls ≠ "java/lang/invoke/VarHandle" ∧ (parseMethodDescriptor yX5_isTooLong.desc).map (fun d => d.parameters.length) = some 0 := ⟨by decide, by decide, by decide +kernel⟩
def f_X5_isTooLong (vh_groups : Int32) (vh_words : Nat → Int32)  : Option (Int32) := (f_X5_isTooLong_L4 bw_F vh_groups vh_words 0 0)
set_option maxHeartbeats 4000000 in
set_option maxRecDepth 100000 in
theorem s_X5_isTooLong (l : Launch) (g : bwG) (ah ah_all ah_kept ah_history ah_slots ah_isSaved ah_words ah_left ah_seen ah_text ah_signs ah_pauses : Nat) (vh_historyLong : Int32) (vh_groups : Int32) (vh_leftLong : Int32) (vh_textLong : Int32) (vh_spot : Int32) (vh_read : Int32) (vh_words : Nat → Int32)  (res : Int32) (hf : f_X5_isTooLong vh_groups vh_words  = some res) : bwS l g yX5_isTooLong cX5_isTooLong 3 (some .boolean) ({ frames := 0, cells := 0, slots := 0, locals := 0 } : Room) [.ref ah] ([(ah, .inr (5, [.ref ah_all, .ref ah_kept, .ref ah_history, .int vh_historyLong, .ref ah_slots, .ref ah_isSaved, .ref ah_words, .int vh_groups, .ref ah_left, .int vh_leftLong, .ref ah_seen, .ref ah_text, .int vh_textLong, .int vh_spot, .ref ah_signs, .ref ah_pauses, .int vh_read])), (ah_words, .inl (g.2.1, 24, .inl vh_words))]) (fun r w => r = some (.int res) ∧ w = [(ah, .inr (5, [.ref ah_all, .ref ah_kept, .ref ah_history, .int vh_historyLong, .ref ah_slots, .ref ah_isSaved, .ref ah_words, .int vh_groups, .ref ah_left, .int vh_leftLong, .ref ah_seen, .ref ah_text, .int vh_textLong, .int vh_spot, .ref ah_signs, .ref ah_pauses, .int vh_read])), (ah_words, .inl (g.2.1, 24, .inl vh_words))]) := by
  refine bwS_of (by decide) (Nat.le_of_ble_eq_true rfl) ?_
  unfold f_X5_isTooLong at hf
  show bwR l g cX5_isTooLong 3 RX5 "isTooLong" (some .boolean) ({ frames := 0, cells := 0, slots := 0, locals := 0 } : Room) bwT (bwZ g (fun r w => r = some (.int res) ∧ w = [(ah, .inr (5, [.ref ah_all, .ref ah_kept, .ref ah_history, .int vh_historyLong, .ref ah_slots, .ref ah_isSaved, .ref ah_words, .int vh_groups, .ref ah_left, .int vh_leftLong, .ref ah_seen, .ref ah_text, .int vh_textLong, .int vh_spot, .ref ah_signs, .ref ah_pauses, .int vh_read])), (ah_words, .inl (g.2.1, 24, .inl vh_words))]) 0 0) 0 [(0, .ref ah)] [] ([(ah, .inr (5, [.ref ah_all, .ref ah_kept, .ref ah_history, .int vh_historyLong, .ref ah_slots, .ref ah_isSaved, .ref ah_words, .int vh_groups, .ref ah_left, .int vh_leftLong, .ref ah_seen, .ref ah_text, .int vh_textLong, .int vh_spot, .ref ah_signs, .ref ah_pauses, .int vh_read])), (ah_words, .inl (g.2.1, 24, .inl vh_words))]) 0 0
  refine bw_iconst 0 dX5_isTooLong_0 (by decide) ?_
  refine bw_istore_n [(1, .int 0), (0, .ref ah)] dX5_isTooLong_1 rfl (by decide) rfl ?_
  refine bw_iconst 0 dX5_isTooLong_2 (by decide) ?_
  refine bw_istore_n [(2, .int 0), (1, .int 0), (0, .ref ah)] dX5_isTooLong_3 rfl (by decide) rfl ?_
  refine bw_lv [2, 1, 0] rfl ?_
  exact s_X5_isTooLong_L4 l g ah ah_all ah_kept ah_history ah_slots ah_isSaved ah_words ah_left ah_seen ah_text ah_signs ah_pauses bw_F vh_historyLong vh_groups vh_leftLong vh_textLong vh_spot vh_read vh_words 0 0 _ hf
end
