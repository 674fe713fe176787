-- ===== PART A: goes FIRST, ahead of the names: the tables' words, and 'selects' of the private methods out of them =====
/-- a private method of a class that the tables say can be made, by its rows of tables_1 -/
def lw_okq (q : MethodName × Nat) : Prop := (q.1.cls ≠ "java/lang/invoke/MethodHandle" ∧ q.1.cls ≠ "java/lang/invoke/VarHandle") ∧ Cond.instantiable q.1.cls q.2 ∈ tables_1 ∧ Cond.privateMethod q.1 ∈ tables_1 ∧ Cond.instanceMethod q.1 ∈ tables_1
theorem lw_p0 : lw_okq (⟨"RivalWeds", "feedNumber", "(I)V"⟩, 17) := ⟨⟨by decide +kernel, by decide +kernel⟩, List.mem_of_getElem? (i := 31) (by decide +kernel), List.mem_of_getElem? (i := 446) (by decide +kernel), List.mem_of_getElem? (i := 447) (by decide +kernel)⟩
theorem lw_p1 : lw_okq (⟨"RivalWeds$Foresight", "claimAll", "()V"⟩, 4) := ⟨⟨by decide +kernel, by decide +kernel⟩, List.mem_of_getElem? (i := 323) (by decide +kernel), List.mem_of_getElem? (i := 488) (by decide +kernel), List.mem_of_getElem? (i := 489) (by decide +kernel)⟩
theorem lw_p2 : lw_okq (⟨"RivalWeds$Town", "payOut", "(I)I"⟩, 20) := ⟨⟨by decide +kernel, by decide +kernel⟩, List.mem_of_getElem? (i := 50) (by decide +kernel), List.mem_of_getElem? (i := 530) (by decide +kernel), List.mem_of_getElem? (i := 531) (by decide +kernel)⟩
theorem lw_p3 : lw_okq (⟨"RivalWeds$Town", "ruinIfShort", "(II)V"⟩, 20) := ⟨⟨by decide +kernel, by decide +kernel⟩, List.mem_of_getElem? (i := 50) (by decide +kernel), List.mem_of_getElem? (i := 538) (by decide +kernel), List.mem_of_getElem? (i := 539) (by decide +kernel)⟩
theorem lw_p4 : lw_okq (⟨"RivalWeds$Town", "take", "(II)I"⟩, 20) := ⟨⟨by decide +kernel, by decide +kernel⟩, List.mem_of_getElem? (i := 50) (by decide +kernel), List.mem_of_getElem? (i := 542) (by decide +kernel), List.mem_of_getElem? (i := 543) (by decide +kernel)⟩
theorem lw_p5 : lw_okq (⟨"RivalWeds$Town", "give", "(II)V"⟩, 20) := ⟨⟨by decide +kernel, by decide +kernel⟩, List.mem_of_getElem? (i := 50) (by decide +kernel), List.mem_of_getElem? (i := 548) (by decide +kernel), List.mem_of_getElem? (i := 549) (by decide +kernel)⟩
theorem lw_p6 : lw_okq (⟨"RivalWeds$Town", "isLeastOfRing", "(I)Z"⟩, 20) := ⟨⟨by decide +kernel, by decide +kernel⟩, List.mem_of_getElem? (i := 50) (by decide +kernel), List.mem_of_getElem? (i := 564) (by decide +kernel), List.mem_of_getElem? (i := 565) (by decide +kernel)⟩
theorem lw_p7 : lw_okq (⟨"RivalWeds$Pairs", "areLovers", "(LRivalWeds$Town;II)Z"⟩, 3) := ⟨⟨by decide +kernel, by decide +kernel⟩, List.mem_of_getElem? (i := 348) (by decide +kernel), List.mem_of_getElem? (i := 576) (by decide +kernel), List.mem_of_getElem? (i := 577) (by decide +kernel)⟩
theorem lw_p8 : lw_okq (⟨"RivalWeds", "rememberedTown", "(I)LRivalWeds$Town;"⟩, 17) := ⟨⟨by decide +kernel, by decide +kernel⟩, List.mem_of_getElem? (i := 31) (by decide +kernel), List.mem_of_getElem? (i := 638) (by decide +kernel), List.mem_of_getElem? (i := 639) (by decide +kernel)⟩
theorem lw_p9 : lw_okq (⟨"RivalWeds", "forgetActs", "()V"⟩, 17) := ⟨⟨by decide +kernel, by decide +kernel⟩, List.mem_of_getElem? (i := 31) (by decide +kernel), List.mem_of_getElem? (i := 658) (by decide +kernel), List.mem_of_getElem? (i := 659) (by decide +kernel)⟩
theorem lw_p10 : lw_okq (⟨"RivalWeds", "useTapeUp", "()I"⟩, 17) := ⟨⟨by decide +kernel, by decide +kernel⟩, List.mem_of_getElem? (i := 31) (by decide +kernel), List.mem_of_getElem? (i := 688) (by decide +kernel), List.mem_of_getElem? (i := 689) (by decide +kernel)⟩
theorem lw_p11 : lw_okq (⟨"RivalWeds$Kind", "isSpelt", "(LRivalWeds$Row;II)Z"⟩, 5) := ⟨⟨by decide +kernel, by decide +kernel⟩, List.mem_of_getElem? (i := 727) (by decide +kernel), List.mem_of_getElem? (i := 725) (by decide +kernel), List.mem_of_getElem? (i := 726) (by decide +kernel)⟩
theorem lw_p12 : lw_okq (⟨"RivalWeds$LawText", "readsEither", "(I)Z"⟩, 14) := ⟨⟨by decide +kernel, by decide +kernel⟩, List.mem_of_getElem? (i := 258) (by decide +kernel), List.mem_of_getElem? (i := 826) (by decide +kernel), List.mem_of_getElem? (i := 827) (by decide +kernel)⟩
theorem lw_p13 : lw_okq (⟨"RivalWeds$LawText", "readsAll", "(I)Z"⟩, 14) := ⟨⟨by decide +kernel, by decide +kernel⟩, List.mem_of_getElem? (i := 258) (by decide +kernel), List.mem_of_getElem? (i := 830) (by decide +kernel), List.mem_of_getElem? (i := 831) (by decide +kernel)⟩
theorem lw_p14 : lw_okq (⟨"RivalWeds$LawText", "readsAtom", "(I)Z"⟩, 14) := ⟨⟨by decide +kernel, by decide +kernel⟩, List.mem_of_getElem? (i := 258) (by decide +kernel), List.mem_of_getElem? (i := 834) (by decide +kernel), List.mem_of_getElem? (i := 835) (by decide +kernel)⟩
theorem lw_p15 : lw_okq (⟨"RivalWeds$LawText", "readsNot", "(I)Z"⟩, 14) := ⟨⟨by decide +kernel, by decide +kernel⟩, List.mem_of_getElem? (i := 258) (by decide +kernel), List.mem_of_getElem? (i := 850) (by decide +kernel), List.mem_of_getElem? (i := 851) (by decide +kernel)⟩
def lw_privs_1 : List (MethodName × Nat) := [(⟨"RivalWeds", "feedNumber", "(I)V"⟩, 17), (⟨"RivalWeds$Foresight", "claimAll", "()V"⟩, 4), (⟨"RivalWeds$Town", "payOut", "(I)I"⟩, 20), (⟨"RivalWeds$Town", "ruinIfShort", "(II)V"⟩, 20), (⟨"RivalWeds$Town", "take", "(II)I"⟩, 20), (⟨"RivalWeds$Town", "give", "(II)V"⟩, 20), (⟨"RivalWeds$Town", "isLeastOfRing", "(I)Z"⟩, 20), (⟨"RivalWeds$Pairs", "areLovers", "(LRivalWeds$Town;II)Z"⟩, 3), (⟨"RivalWeds", "rememberedTown", "(I)LRivalWeds$Town;"⟩, 17), (⟨"RivalWeds", "forgetActs", "()V"⟩, 17), (⟨"RivalWeds", "useTapeUp", "()I"⟩, 17), (⟨"RivalWeds$Kind", "isSpelt", "(LRivalWeds$Row;II)Z"⟩, 5), (⟨"RivalWeds$LawText", "readsEither", "(I)Z"⟩, 14), (⟨"RivalWeds$LawText", "readsAll", "(I)Z"⟩, 14), (⟨"RivalWeds$LawText", "readsAtom", "(I)Z"⟩, 14), (⟨"RivalWeds$LawText", "readsNot", "(I)Z"⟩, 14)]
theorem lw_r1 : ∀ q ∈ lw_privs_1, lw_okq q := List.forall_mem_cons.mpr ⟨lw_p0, List.forall_mem_cons.mpr ⟨lw_p1, List.forall_mem_cons.mpr ⟨lw_p2, List.forall_mem_cons.mpr ⟨lw_p3, List.forall_mem_cons.mpr ⟨lw_p4, List.forall_mem_cons.mpr ⟨lw_p5, List.forall_mem_cons.mpr ⟨lw_p6, List.forall_mem_cons.mpr ⟨lw_p7, List.forall_mem_cons.mpr ⟨lw_p8, List.forall_mem_cons.mpr ⟨lw_p9, List.forall_mem_cons.mpr ⟨lw_p10, List.forall_mem_cons.mpr ⟨lw_p11, List.forall_mem_cons.mpr ⟨lw_p12, List.forall_mem_cons.mpr ⟨lw_p13, List.forall_mem_cons.mpr ⟨lw_p14, List.forall_mem_cons.mpr ⟨lw_p15, fun _ h => absurd h List.not_mem_nil⟩⟩⟩⟩⟩⟩⟩⟩⟩⟩⟩⟩⟩⟩⟩⟩
theorem lw_p16 : lw_okq (⟨"RivalWeds$LawText", "readsSum", "()Z"⟩, 14) := ⟨⟨by decide +kernel, by decide +kernel⟩, List.mem_of_getElem? (i := 258) (by decide +kernel), List.mem_of_getElem? (i := 862) (by decide +kernel), List.mem_of_getElem? (i := 863) (by decide +kernel)⟩
theorem lw_p17 : lw_okq (⟨"RivalWeds$TownText", "readsPerson", "()Z"⟩, 14) := ⟨⟨by decide +kernel, by decide +kernel⟩, List.mem_of_getElem? (i := 179) (by decide +kernel), List.mem_of_getElem? (i := 889) (by decide +kernel), List.mem_of_getElem? (i := 890) (by decide +kernel)⟩
theorem lw_p18 : lw_okq (⟨"RivalWeds$TownText", "readsLikes", "()Z"⟩, 14) := ⟨⟨by decide +kernel, by decide +kernel⟩, List.mem_of_getElem? (i := 179) (by decide +kernel), List.mem_of_getElem? (i := 908) (by decide +kernel), List.mem_of_getElem? (i := 909) (by decide +kernel)⟩
theorem lw_p19 : lw_okq (⟨"RivalWeds$TownText", "takeSomebody", "(IZ)I"⟩, 14) := ⟨⟨by decide +kernel, by decide +kernel⟩, List.mem_of_getElem? (i := 179) (by decide +kernel), List.mem_of_getElem? (i := 912) (by decide +kernel), List.mem_of_getElem? (i := 913) (by decide +kernel)⟩
theorem lw_p20 : lw_okq (⟨"RivalWeds$TownText", "readsTwo", "(Z)Z"⟩, 14) := ⟨⟨by decide +kernel, by decide +kernel⟩, List.mem_of_getElem? (i := 179) (by decide +kernel), List.mem_of_getElem? (i := 931) (by decide +kernel), List.mem_of_getElem? (i := 932) (by decide +kernel)⟩
theorem lw_p21 : lw_okq (⟨"RivalWeds$TownText", "readsWed", "()Z"⟩, 14) := ⟨⟨by decide +kernel, by decide +kernel⟩, List.mem_of_getElem? (i := 179) (by decide +kernel), List.mem_of_getElem? (i := 942) (by decide +kernel), List.mem_of_getElem? (i := 943) (by decide +kernel)⟩
theorem lw_p22 : lw_okq (⟨"RivalWeds$TownText", "readsSetting", "(LRivalWeds$Kind;)Z"⟩, 14) := ⟨⟨by decide +kernel, by decide +kernel⟩, List.mem_of_getElem? (i := 179) (by decide +kernel), List.mem_of_getElem? (i := 955) (by decide +kernel), List.mem_of_getElem? (i := 956) (by decide +kernel)⟩
theorem lw_p23 : lw_okq (⟨"java/lang/Throwable", "fillInStackTrace", "(I)Ljava/lang/Throwable;"⟩, 6) := ⟨⟨by decide +kernel, by decide +kernel⟩, List.mem_of_getElem? (i := 1008) (by decide +kernel), List.mem_of_getElem? (i := 1006) (by decide +kernel), List.mem_of_getElem? (i := 1007) (by decide +kernel)⟩
theorem lw_p24 : lw_okq (⟨"RivalWeds", "checkPerson", "(I)V"⟩, 17) := ⟨⟨by decide +kernel, by decide +kernel⟩, List.mem_of_getElem? (i := 31) (by decide +kernel), List.mem_of_getElem? (i := 1078) (by decide +kernel), List.mem_of_getElem? (i := 1079) (by decide +kernel)⟩
theorem lw_p25 : lw_okq (⟨"RivalWeds", "checkTwo", "(II)V"⟩, 17) := ⟨⟨by decide +kernel, by decide +kernel⟩, List.mem_of_getElem? (i := 31) (by decide +kernel), List.mem_of_getElem? (i := 1131) (by decide +kernel), List.mem_of_getElem? (i := 1132) (by decide +kernel)⟩
theorem lw_p26 : lw_okq (⟨"RivalWeds", "checkMatch", "(I)V"⟩, 17) := ⟨⟨by decide +kernel, by decide +kernel⟩, List.mem_of_getElem? (i := 31) (by decide +kernel), List.mem_of_getElem? (i := 1144) (by decide +kernel), List.mem_of_getElem? (i := 1145) (by decide +kernel)⟩
theorem lw_p27 : lw_okq (⟨"RivalWeds$Law", "isMet", "(IILRivalWeds$Look;)Z"⟩, 6) := ⟨⟨by decide +kernel, by decide +kernel⟩, List.mem_of_getElem? (i := 150) (by decide +kernel), List.mem_of_getElem? (i := 1167) (by decide +kernel), List.mem_of_getElem? (i := 1168) (by decide +kernel)⟩
theorem lw_p28 : lw_okq (⟨"RivalWeds", "remember", "()V"⟩, 17) := ⟨⟨by decide +kernel, by decide +kernel⟩, List.mem_of_getElem? (i := 31) (by decide +kernel), List.mem_of_getElem? (i := 1186) (by decide +kernel), List.mem_of_getElem? (i := 1187) (by decide +kernel)⟩
theorem lw_p29 : lw_okq (⟨"RivalWeds", "checkInsurer", "(II)V"⟩, 17) := ⟨⟨by decide +kernel, by decide +kernel⟩, List.mem_of_getElem? (i := 31) (by decide +kernel), List.mem_of_getElem? (i := 1225) (by decide +kernel), List.mem_of_getElem? (i := 1226) (by decide +kernel)⟩
theorem lw_p30 : lw_okq (⟨"RivalWeds", "checkGoesOn", "(I)V"⟩, 17) := ⟨⟨by decide +kernel, by decide +kernel⟩, List.mem_of_getElem? (i := 31) (by decide +kernel), List.mem_of_getElem? (i := 1229) (by decide +kernel), List.mem_of_getElem? (i := 1230) (by decide +kernel)⟩
theorem lw_p31 : lw_okq (⟨"RivalWeds", "checkNumber", "(III)V"⟩, 17) := ⟨⟨by decide +kernel, by decide +kernel⟩, List.mem_of_getElem? (i := 31) (by decide +kernel), List.mem_of_getElem? (i := 1278) (by decide +kernel), List.mem_of_getElem? (i := 1279) (by decide +kernel)⟩
def lw_privs_2 : List (MethodName × Nat) := [(⟨"RivalWeds$LawText", "readsSum", "()Z"⟩, 14), (⟨"RivalWeds$TownText", "readsPerson", "()Z"⟩, 14), (⟨"RivalWeds$TownText", "readsLikes", "()Z"⟩, 14), (⟨"RivalWeds$TownText", "takeSomebody", "(IZ)I"⟩, 14), (⟨"RivalWeds$TownText", "readsTwo", "(Z)Z"⟩, 14), (⟨"RivalWeds$TownText", "readsWed", "()Z"⟩, 14), (⟨"RivalWeds$TownText", "readsSetting", "(LRivalWeds$Kind;)Z"⟩, 14), (⟨"java/lang/Throwable", "fillInStackTrace", "(I)Ljava/lang/Throwable;"⟩, 6), (⟨"RivalWeds", "checkPerson", "(I)V"⟩, 17), (⟨"RivalWeds", "checkTwo", "(II)V"⟩, 17), (⟨"RivalWeds", "checkMatch", "(I)V"⟩, 17), (⟨"RivalWeds$Law", "isMet", "(IILRivalWeds$Look;)Z"⟩, 6), (⟨"RivalWeds", "remember", "()V"⟩, 17), (⟨"RivalWeds", "checkInsurer", "(II)V"⟩, 17), (⟨"RivalWeds", "checkGoesOn", "(I)V"⟩, 17), (⟨"RivalWeds", "checkNumber", "(III)V"⟩, 17)]
theorem lw_r2 : ∀ q ∈ lw_privs_2, lw_okq q := List.forall_mem_cons.mpr ⟨lw_p16, List.forall_mem_cons.mpr ⟨lw_p17, List.forall_mem_cons.mpr ⟨lw_p18, List.forall_mem_cons.mpr ⟨lw_p19, List.forall_mem_cons.mpr ⟨lw_p20, List.forall_mem_cons.mpr ⟨lw_p21, List.forall_mem_cons.mpr ⟨lw_p22, List.forall_mem_cons.mpr ⟨lw_p23, List.forall_mem_cons.mpr ⟨lw_p24, List.forall_mem_cons.mpr ⟨lw_p25, List.forall_mem_cons.mpr ⟨lw_p26, List.forall_mem_cons.mpr ⟨lw_p27, List.forall_mem_cons.mpr ⟨lw_p28, List.forall_mem_cons.mpr ⟨lw_p29, List.forall_mem_cons.mpr ⟨lw_p30, List.forall_mem_cons.mpr ⟨lw_p31, fun _ h => absurd h List.not_mem_nil⟩⟩⟩⟩⟩⟩⟩⟩⟩⟩⟩⟩⟩⟩⟩⟩
theorem lw_p32 : lw_okq (⟨"RivalWeds$Town", "passMatch", "(ILRivalWeds$Law;LRivalWeds$Look;)V"⟩, 20) := ⟨⟨by decide +kernel, by decide +kernel⟩, List.mem_of_getElem? (i := 50) (by decide +kernel), List.mem_of_getElem? (i := 1288) (by decide +kernel), List.mem_of_getElem? (i := 1289) (by decide +kernel)⟩
theorem lw_p33 : lw_okq (⟨"RivalWeds$Town", "payPremiums", "(I)V"⟩, 20) := ⟨⟨by decide +kernel, by decide +kernel⟩, List.mem_of_getElem? (i := 50) (by decide +kernel), List.mem_of_getElem? (i := 1292) (by decide +kernel), List.mem_of_getElem? (i := 1293) (by decide +kernel)⟩
theorem lw_p34 : lw_okq (⟨"RivalWeds$Town", "addToLog", "(III)V"⟩, 20) := ⟨⟨by decide +kernel, by decide +kernel⟩, List.mem_of_getElem? (i := 50) (by decide +kernel), List.mem_of_getElem? (i := 1304) (by decide +kernel), List.mem_of_getElem? (i := 1305) (by decide +kernel)⟩
theorem lw_p35 : lw_okq (⟨"RivalWeds", "checkQuarrel", "(I)V"⟩, 17) := ⟨⟨by decide +kernel, by decide +kernel⟩, List.mem_of_getElem? (i := 31) (by decide +kernel), List.mem_of_getElem? (i := 1340) (by decide +kernel), List.mem_of_getElem? (i := 1341) (by decide +kernel)⟩
theorem lw_p36 : lw_okq (⟨"RivalWeds$Town", "comesTo", "(II)Z"⟩, 20) := ⟨⟨by decide +kernel, by decide +kernel⟩, List.mem_of_getElem? (i := 50) (by decide +kernel), List.mem_of_getElem? (i := 1438) (by decide +kernel), List.mem_of_getElem? (i := 1439) (by decide +kernel)⟩
theorem lw_p37 : lw_okq (⟨"RivalWeds$Foresight", "addGifts", "()V"⟩, 4) := ⟨⟨by decide +kernel, by decide +kernel⟩, List.mem_of_getElem? (i := 323) (by decide +kernel), List.mem_of_getElem? (i := 1457) (by decide +kernel), List.mem_of_getElem? (i := 1458) (by decide +kernel)⟩
theorem lw_p38 : lw_okq (⟨"RivalWeds$Foresight", "passCosts", "(LRivalWeds$Law;I)V"⟩, 4) := ⟨⟨by decide +kernel, by decide +kernel⟩, List.mem_of_getElem? (i := 323) (by decide +kernel), List.mem_of_getElem? (i := 1463) (by decide +kernel), List.mem_of_getElem? (i := 1464) (by decide +kernel)⟩
theorem lw_p39 : lw_okq (⟨"RivalWeds$Pairs", "pairUp", "(LRivalWeds$Town;ZI)V"⟩, 3) := ⟨⟨by decide +kernel, by decide +kernel⟩, List.mem_of_getElem? (i := 348) (by decide +kernel), List.mem_of_getElem? (i := 1488) (by decide +kernel), List.mem_of_getElem? (i := 1489) (by decide +kernel)⟩
theorem lw_p40 : lw_okq (⟨"RivalWeds$Pairs", "firstWithout", "(I)I"⟩, 3) := ⟨⟨by decide +kernel, by decide +kernel⟩, List.mem_of_getElem? (i := 348) (by decide +kernel), List.mem_of_getElem? (i := 1492) (by decide +kernel), List.mem_of_getElem? (i := 1493) (by decide +kernel)⟩
theorem lw_p41 : lw_okq (⟨"RivalWeds$Pairs", "countIfSteady", "(LRivalWeds$Town;)V"⟩, 3) := ⟨⟨by decide +kernel, by decide +kernel⟩, List.mem_of_getElem? (i := 348) (by decide +kernel), List.mem_of_getElem? (i := 1496) (by decide +kernel), List.mem_of_getElem? (i := 1497) (by decide +kernel)⟩
theorem lw_p42 : lw_okq (⟨"RivalWeds$Pairs", "wouldLeaveFor", "(LRivalWeds$Town;II)Z"⟩, 3) := ⟨⟨by decide +kernel, by decide +kernel⟩, List.mem_of_getElem? (i := 348) (by decide +kernel), List.mem_of_getElem? (i := 1500) (by decide +kernel), List.mem_of_getElem? (i := 1501) (by decide +kernel)⟩
theorem lw_p43 : lw_okq (⟨"RivalWeds$Pairs", "tryPair", "(LRivalWeds$Town;IIZI)V"⟩, 3) := ⟨⟨by decide +kernel, by decide +kernel⟩, List.mem_of_getElem? (i := 348) (by decide +kernel), List.mem_of_getElem? (i := 1505) (by decide +kernel), List.mem_of_getElem? (i := 1506) (by decide +kernel)⟩
theorem lw_p44 : lw_okq (⟨"RivalWeds", "readTold", "()V"⟩, 17) := ⟨⟨by decide +kernel, by decide +kernel⟩, List.mem_of_getElem? (i := 31) (by decide +kernel), List.mem_of_getElem? (i := 1522) (by decide +kernel), List.mem_of_getElem? (i := 1523) (by decide +kernel)⟩
theorem lw_p45 : lw_okq (⟨"RivalWeds$ToldSets", "fits", "(I)Z"⟩, 5) := ⟨⟨by decide +kernel, by decide +kernel⟩, List.mem_of_getElem? (i := 366) (by decide +kernel), List.mem_of_getElem? (i := 1542) (by decide +kernel), List.mem_of_getElem? (i := 1543) (by decide +kernel)⟩
theorem lw_p46 : lw_okq (⟨"RivalWeds$ToldSets", "addMembers", "(I)V"⟩, 5) := ⟨⟨by decide +kernel, by decide +kernel⟩, List.mem_of_getElem? (i := 366) (by decide +kernel), List.mem_of_getElem? (i := 1547) (by decide +kernel), List.mem_of_getElem? (i := 1548) (by decide +kernel)⟩
theorem lw_p47 : lw_okq (⟨"RivalWedsModel", "putsAside", "()V"⟩, 24) := ⟨⟨by decide +kernel, by decide +kernel⟩, List.mem_of_getElem? (i := 1617) (by decide +kernel), List.mem_of_getElem? (i := 1716) (by decide +kernel), List.mem_of_getElem? (i := 1717) (by decide +kernel)⟩
def lw_privs_3 : List (MethodName × Nat) := [(⟨"RivalWeds$Town", "passMatch", "(ILRivalWeds$Law;LRivalWeds$Look;)V"⟩, 20), (⟨"RivalWeds$Town", "payPremiums", "(I)V"⟩, 20), (⟨"RivalWeds$Town", "addToLog", "(III)V"⟩, 20), (⟨"RivalWeds", "checkQuarrel", "(I)V"⟩, 17), (⟨"RivalWeds$Town", "comesTo", "(II)Z"⟩, 20), (⟨"RivalWeds$Foresight", "addGifts", "()V"⟩, 4), (⟨"RivalWeds$Foresight", "passCosts", "(LRivalWeds$Law;I)V"⟩, 4), (⟨"RivalWeds$Pairs", "pairUp", "(LRivalWeds$Town;ZI)V"⟩, 3), (⟨"RivalWeds$Pairs", "firstWithout", "(I)I"⟩, 3), (⟨"RivalWeds$Pairs", "countIfSteady", "(LRivalWeds$Town;)V"⟩, 3), (⟨"RivalWeds$Pairs", "wouldLeaveFor", "(LRivalWeds$Town;II)Z"⟩, 3), (⟨"RivalWeds$Pairs", "tryPair", "(LRivalWeds$Town;IIZI)V"⟩, 3), (⟨"RivalWeds", "readTold", "()V"⟩, 17), (⟨"RivalWeds$ToldSets", "fits", "(I)Z"⟩, 5), (⟨"RivalWeds$ToldSets", "addMembers", "(I)V"⟩, 5), (⟨"RivalWedsModel", "putsAside", "()V"⟩, 24)]
theorem lw_r3 : ∀ q ∈ lw_privs_3, lw_okq q := List.forall_mem_cons.mpr ⟨lw_p32, List.forall_mem_cons.mpr ⟨lw_p33, List.forall_mem_cons.mpr ⟨lw_p34, List.forall_mem_cons.mpr ⟨lw_p35, List.forall_mem_cons.mpr ⟨lw_p36, List.forall_mem_cons.mpr ⟨lw_p37, List.forall_mem_cons.mpr ⟨lw_p38, List.forall_mem_cons.mpr ⟨lw_p39, List.forall_mem_cons.mpr ⟨lw_p40, List.forall_mem_cons.mpr ⟨lw_p41, List.forall_mem_cons.mpr ⟨lw_p42, List.forall_mem_cons.mpr ⟨lw_p43, List.forall_mem_cons.mpr ⟨lw_p44, List.forall_mem_cons.mpr ⟨lw_p45, List.forall_mem_cons.mpr ⟨lw_p46, List.forall_mem_cons.mpr ⟨lw_p47, fun _ h => absurd h List.not_mem_nil⟩⟩⟩⟩⟩⟩⟩⟩⟩⟩⟩⟩⟩⟩⟩⟩
theorem lw_p48 : lw_okq (⟨"RivalWedsModel", "begins", "()V"⟩, 24) := ⟨⟨by decide +kernel, by decide +kernel⟩, List.mem_of_getElem? (i := 1617) (by decide +kernel), List.mem_of_getElem? (i := 1720) (by decide +kernel), List.mem_of_getElem? (i := 1721) (by decide +kernel)⟩
theorem lw_p49 : lw_okq (⟨"RivalWedsModel", "read", "(Z)I"⟩, 24) := ⟨⟨by decide +kernel, by decide +kernel⟩, List.mem_of_getElem? (i := 1617) (by decide +kernel), List.mem_of_getElem? (i := 1724) (by decide +kernel), List.mem_of_getElem? (i := 1725) (by decide +kernel)⟩
theorem lw_p50 : lw_okq (⟨"RivalWedsModel", "skip", "()V"⟩, 24) := ⟨⟨by decide +kernel, by decide +kernel⟩, List.mem_of_getElem? (i := 1617) (by decide +kernel), List.mem_of_getElem? (i := 1728) (by decide +kernel), List.mem_of_getElem? (i := 1729) (by decide +kernel)⟩
theorem lw_p51 : lw_okq (⟨"RivalWedsModel", "letter", "(I)I"⟩, 24) := ⟨⟨by decide +kernel, by decide +kernel⟩, List.mem_of_getElem? (i := 1617) (by decide +kernel), List.mem_of_getElem? (i := 1732) (by decide +kernel), List.mem_of_getElem? (i := 1733) (by decide +kernel)⟩
theorem lw_p52 : lw_okq (⟨"RivalWedsModel", "wrong", "(I)V"⟩, 24) := ⟨⟨by decide +kernel, by decide +kernel⟩, List.mem_of_getElem? (i := 1617) (by decide +kernel), List.mem_of_getElem? (i := 1736) (by decide +kernel), List.mem_of_getElem? (i := 1737) (by decide +kernel)⟩
theorem lw_p53 : lw_okq (⟨"RivalWedsModel", "lawLine", "()V"⟩, 24) := ⟨⟨by decide +kernel, by decide +kernel⟩, List.mem_of_getElem? (i := 1617) (by decide +kernel), List.mem_of_getElem? (i := 1740) (by decide +kernel), List.mem_of_getElem? (i := 1741) (by decide +kernel)⟩
theorem lw_p54 : lw_okq (⟨"RivalWedsModel", "says", "(Ljava/lang/String;)Z"⟩, 24) := ⟨⟨by decide +kernel, by decide +kernel⟩, List.mem_of_getElem? (i := 1617) (by decide +kernel), List.mem_of_getElem? (i := 1745) (by decide +kernel), List.mem_of_getElem? (i := 1746) (by decide +kernel)⟩
theorem lw_p55 : lw_okq (⟨"RivalWedsModel", "figures", "(II)I"⟩, 24) := ⟨⟨by decide +kernel, by decide +kernel⟩, List.mem_of_getElem? (i := 1617) (by decide +kernel), List.mem_of_getElem? (i := 1752) (by decide +kernel), List.mem_of_getElem? (i := 1753) (by decide +kernel)⟩
theorem lw_p56 : lw_okq (⟨"RivalWedsModel", "place", "()I"⟩, 24) := ⟨⟨by decide +kernel, by decide +kernel⟩, List.mem_of_getElem? (i := 1617) (by decide +kernel), List.mem_of_getElem? (i := 1756) (by decide +kernel), List.mem_of_getElem? (i := 1757) (by decide +kernel)⟩
theorem lw_p57 : lw_okq (⟨"RivalWedsModel", "some", "()Z"⟩, 24) := ⟨⟨by decide +kernel, by decide +kernel⟩, List.mem_of_getElem? (i := 1617) (by decide +kernel), List.mem_of_getElem? (i := 1761) (by decide +kernel), List.mem_of_getElem? (i := 1762) (by decide +kernel)⟩
theorem lw_p58 : lw_okq (⟨"RivalWedsModel", "every", "()Z"⟩, 24) := ⟨⟨by decide +kernel, by decide +kernel⟩, List.mem_of_getElem? (i := 1617) (by decide +kernel), List.mem_of_getElem? (i := 1765) (by decide +kernel), List.mem_of_getElem? (i := 1766) (by decide +kernel)⟩
theorem lw_p59 : lw_okq (⟨"RivalWedsModel", "atom", "()Z"⟩, 24) := ⟨⟨by decide +kernel, by decide +kernel⟩, List.mem_of_getElem? (i := 1617) (by decide +kernel), List.mem_of_getElem? (i := 1769) (by decide +kernel), List.mem_of_getElem? (i := 1770) (by decide +kernel)⟩
theorem lw_p60 : lw_okq (⟨"RivalWedsModel", "isSign", "(I)Z"⟩, 24) := ⟨⟨by decide +kernel, by decide +kernel⟩, List.mem_of_getElem? (i := 1617) (by decide +kernel), List.mem_of_getElem? (i := 1774) (by decide +kernel), List.mem_of_getElem? (i := 1775) (by decide +kernel)⟩
theorem lw_p61 : lw_okq (⟨"RivalWedsModel", "plain", "()Z"⟩, 24) := ⟨⟨by decide +kernel, by decide +kernel⟩, List.mem_of_getElem? (i := 1617) (by decide +kernel), List.mem_of_getElem? (i := 1778) (by decide +kernel), List.mem_of_getElem? (i := 1779) (by decide +kernel)⟩
theorem lw_p62 : lw_okq (⟨"RivalWedsModel", "sum", "()I"⟩, 24) := ⟨⟨by decide +kernel, by decide +kernel⟩, List.mem_of_getElem? (i := 1617) (by decide +kernel), List.mem_of_getElem? (i := 1784) (by decide +kernel), List.mem_of_getElem? (i := 1785) (by decide +kernel)⟩
theorem lw_p63 : lw_okq (⟨"RivalWedsModel", "part", "()I"⟩, 24) := ⟨⟨by decide +kernel, by decide +kernel⟩, List.mem_of_getElem? (i := 1617) (by decide +kernel), List.mem_of_getElem? (i := 1788) (by decide +kernel), List.mem_of_getElem? (i := 1789) (by decide +kernel)⟩
def lw_privs_4 : List (MethodName × Nat) := [(⟨"RivalWedsModel", "begins", "()V"⟩, 24), (⟨"RivalWedsModel", "read", "(Z)I"⟩, 24), (⟨"RivalWedsModel", "skip", "()V"⟩, 24), (⟨"RivalWedsModel", "letter", "(I)I"⟩, 24), (⟨"RivalWedsModel", "wrong", "(I)V"⟩, 24), (⟨"RivalWedsModel", "lawLine", "()V"⟩, 24), (⟨"RivalWedsModel", "says", "(Ljava/lang/String;)Z"⟩, 24), (⟨"RivalWedsModel", "figures", "(II)I"⟩, 24), (⟨"RivalWedsModel", "place", "()I"⟩, 24), (⟨"RivalWedsModel", "some", "()Z"⟩, 24), (⟨"RivalWedsModel", "every", "()Z"⟩, 24), (⟨"RivalWedsModel", "atom", "()Z"⟩, 24), (⟨"RivalWedsModel", "isSign", "(I)Z"⟩, 24), (⟨"RivalWedsModel", "plain", "()Z"⟩, 24), (⟨"RivalWedsModel", "sum", "()I"⟩, 24), (⟨"RivalWedsModel", "part", "()I"⟩, 24)]
theorem lw_r4 : ∀ q ∈ lw_privs_4, lw_okq q := List.forall_mem_cons.mpr ⟨lw_p48, List.forall_mem_cons.mpr ⟨lw_p49, List.forall_mem_cons.mpr ⟨lw_p50, List.forall_mem_cons.mpr ⟨lw_p51, List.forall_mem_cons.mpr ⟨lw_p52, List.forall_mem_cons.mpr ⟨lw_p53, List.forall_mem_cons.mpr ⟨lw_p54, List.forall_mem_cons.mpr ⟨lw_p55, List.forall_mem_cons.mpr ⟨lw_p56, List.forall_mem_cons.mpr ⟨lw_p57, List.forall_mem_cons.mpr ⟨lw_p58, List.forall_mem_cons.mpr ⟨lw_p59, List.forall_mem_cons.mpr ⟨lw_p60, List.forall_mem_cons.mpr ⟨lw_p61, List.forall_mem_cons.mpr ⟨lw_p62, List.forall_mem_cons.mpr ⟨lw_p63, fun _ h => absurd h List.not_mem_nil⟩⟩⟩⟩⟩⟩⟩⟩⟩⟩⟩⟩⟩⟩⟩⟩
theorem lw_p64 : lw_okq (⟨"RivalWedsModel", "townLine", "()V"⟩, 24) := ⟨⟨by decide +kernel, by decide +kernel⟩, List.mem_of_getElem? (i := 1617) (by decide +kernel), List.mem_of_getElem? (i := 1800) (by decide +kernel), List.mem_of_getElem? (i := 1801) (by decide +kernel)⟩
theorem lw_p65 : lw_okq (⟨"RivalWedsModel", "personLine", "(I)V"⟩, 24) := ⟨⟨by decide +kernel, by decide +kernel⟩, List.mem_of_getElem? (i := 1617) (by decide +kernel), List.mem_of_getElem? (i := 1805) (by decide +kernel), List.mem_of_getElem? (i := 1806) (by decide +kernel)⟩
theorem lw_p66 : lw_okq (⟨"RivalWedsModel", "has", "(III)V"⟩, 24) := ⟨⟨by decide +kernel, by decide +kernel⟩, List.mem_of_getElem? (i := 1617) (by decide +kernel), List.mem_of_getElem? (i := 1809) (by decide +kernel), List.mem_of_getElem? (i := 1810) (by decide +kernel)⟩
theorem lw_p67 : lw_okq (⟨"RivalWedsModel", "likings", "()V"⟩, 24) := ⟨⟨by decide +kernel, by decide +kernel⟩, List.mem_of_getElem? (i := 1617) (by decide +kernel), List.mem_of_getElem? (i := 1814) (by decide +kernel), List.mem_of_getElem? (i := 1815) (by decide +kernel)⟩
theorem lw_p68 : lw_okq (⟨"RivalWedsModel", "who", "()I"⟩, 24) := ⟨⟨by decide +kernel, by decide +kernel⟩, List.mem_of_getElem? (i := 1617) (by decide +kernel), List.mem_of_getElem? (i := 1818) (by decide +kernel), List.mem_of_getElem? (i := 1819) (by decide +kernel)⟩
theorem lw_p69 : lw_okq (⟨"RivalWedsModel", "other", "(I)I"⟩, 24) := ⟨⟨by decide +kernel, by decide +kernel⟩, List.mem_of_getElem? (i := 1617) (by decide +kernel), List.mem_of_getElem? (i := 1823) (by decide +kernel), List.mem_of_getElem? (i := 1824) (by decide +kernel)⟩
theorem lw_p70 : lw_okq (⟨"RivalWedsModel", "of", "(II)I"⟩, 24) := ⟨⟨by decide +kernel, by decide +kernel⟩, List.mem_of_getElem? (i := 1617) (by decide +kernel), List.mem_of_getElem? (i := 1827) (by decide +kernel), List.mem_of_getElem? (i := 1828) (by decide +kernel)⟩
theorem lw_p71 : lw_okq (⟨"RivalWedsModel", "wedLine", "(I)V"⟩, 24) := ⟨⟨by decide +kernel, by decide +kernel⟩, List.mem_of_getElem? (i := 1617) (by decide +kernel), List.mem_of_getElem? (i := 1833) (by decide +kernel), List.mem_of_getElem? (i := 1834) (by decide +kernel)⟩
theorem lw_p72 : lw_okq (⟨"RivalWedsModel", "free", "(II)V"⟩, 24) := ⟨⟨by decide +kernel, by decide +kernel⟩, List.mem_of_getElem? (i := 1617) (by decide +kernel), List.mem_of_getElem? (i := 1837) (by decide +kernel), List.mem_of_getElem? (i := 1838) (by decide +kernel)⟩
theorem lw_p73 : lw_okq (⟨"RivalWedsModel", "wedTo", "(I)I"⟩, 24) := ⟨⟨by decide +kernel, by decide +kernel⟩, List.mem_of_getElem? (i := 1617) (by decide +kernel), List.mem_of_getElem? (i := 1841) (by decide +kernel), List.mem_of_getElem? (i := 1842) (by decide +kernel)⟩
theorem lw_p74 : lw_okq (⟨"RivalWedsModel", "ofMatch", "(II)I"⟩, 24) := ⟨⟨by decide +kernel, by decide +kernel⟩, List.mem_of_getElem? (i := 1617) (by decide +kernel), List.mem_of_getElem? (i := 1845) (by decide +kernel), List.mem_of_getElem? (i := 1846) (by decide +kernel)⟩
theorem lw_p75 : lw_okq (⟨"RivalWedsModel", "after", "(Ljava/lang/String;II)I"⟩, 24) := ⟨⟨by decide +kernel, by decide +kernel⟩, List.mem_of_getElem? (i := 1617) (by decide +kernel), List.mem_of_getElem? (i := 1849) (by decide +kernel), List.mem_of_getElem? (i := 1850) (by decide +kernel)⟩
theorem lw_p76 : lw_okq (⟨"RivalWedsModel", "comes", "(III)V"⟩, 24) := ⟨⟨by decide +kernel, by decide +kernel⟩, List.mem_of_getElem? (i := 1617) (by decide +kernel), List.mem_of_getElem? (i := 1853) (by decide +kernel), List.mem_of_getElem? (i := 1854) (by decide +kernel)⟩
theorem lw_p77 : lw_okq (⟨"RivalWedsModel", "told", "(III)V"⟩, 24) := ⟨⟨by decide +kernel, by decide +kernel⟩, List.mem_of_getElem? (i := 1617) (by decide +kernel), List.mem_of_getElem? (i := 1857) (by decide +kernel), List.mem_of_getElem? (i := 1858) (by decide +kernel)⟩
theorem lw_p78 : lw_okq (⟨"RivalWedsModel", "tells", "(II)V"⟩, 24) := ⟨⟨by decide +kernel, by decide +kernel⟩, List.mem_of_getElem? (i := 1617) (by decide +kernel), List.mem_of_getElem? (i := 1862) (by decide +kernel), List.mem_of_getElem? (i := 1863) (by decide +kernel)⟩
theorem lw_p79 : lw_okq (⟨"RivalWedsModel", "comesBack", "()V"⟩, 24) := ⟨⟨by decide +kernel, by decide +kernel⟩, List.mem_of_getElem? (i := 1617) (by decide +kernel), List.mem_of_getElem? (i := 1868) (by decide +kernel), List.mem_of_getElem? (i := 1869) (by decide +kernel)⟩
def lw_privs_5 : List (MethodName × Nat) := [(⟨"RivalWedsModel", "townLine", "()V"⟩, 24), (⟨"RivalWedsModel", "personLine", "(I)V"⟩, 24), (⟨"RivalWedsModel", "has", "(III)V"⟩, 24), (⟨"RivalWedsModel", "likings", "()V"⟩, 24), (⟨"RivalWedsModel", "who", "()I"⟩, 24), (⟨"RivalWedsModel", "other", "(I)I"⟩, 24), (⟨"RivalWedsModel", "of", "(II)I"⟩, 24), (⟨"RivalWedsModel", "wedLine", "(I)V"⟩, 24), (⟨"RivalWedsModel", "free", "(II)V"⟩, 24), (⟨"RivalWedsModel", "wedTo", "(I)I"⟩, 24), (⟨"RivalWedsModel", "ofMatch", "(II)I"⟩, 24), (⟨"RivalWedsModel", "after", "(Ljava/lang/String;II)I"⟩, 24), (⟨"RivalWedsModel", "comes", "(III)V"⟩, 24), (⟨"RivalWedsModel", "told", "(III)V"⟩, 24), (⟨"RivalWedsModel", "tells", "(II)V"⟩, 24), (⟨"RivalWedsModel", "comesBack", "()V"⟩, 24)]
theorem lw_r5 : ∀ q ∈ lw_privs_5, lw_okq q := List.forall_mem_cons.mpr ⟨lw_p64, List.forall_mem_cons.mpr ⟨lw_p65, List.forall_mem_cons.mpr ⟨lw_p66, List.forall_mem_cons.mpr ⟨lw_p67, List.forall_mem_cons.mpr ⟨lw_p68, List.forall_mem_cons.mpr ⟨lw_p69, List.forall_mem_cons.mpr ⟨lw_p70, List.forall_mem_cons.mpr ⟨lw_p71, List.forall_mem_cons.mpr ⟨lw_p72, List.forall_mem_cons.mpr ⟨lw_p73, List.forall_mem_cons.mpr ⟨lw_p74, List.forall_mem_cons.mpr ⟨lw_p75, List.forall_mem_cons.mpr ⟨lw_p76, List.forall_mem_cons.mpr ⟨lw_p77, List.forall_mem_cons.mpr ⟨lw_p78, List.forall_mem_cons.mpr ⟨lw_p79, fun _ h => absurd h List.not_mem_nil⟩⟩⟩⟩⟩⟩⟩⟩⟩⟩⟩⟩⟩⟩⟩⟩
theorem lw_p80 : lw_okq (⟨"RivalWedsModel", "isPerson", "(I)Z"⟩, 24) := ⟨⟨by decide +kernel, by decide +kernel⟩, List.mem_of_getElem? (i := 1617) (by decide +kernel), List.mem_of_getElem? (i := 1884) (by decide +kernel), List.mem_of_getElem? (i := 1885) (by decide +kernel)⟩
theorem lw_p81 : lw_okq (⟨"RivalWedsModel", "askersOf", "(I)I"⟩, 24) := ⟨⟨by decide +kernel, by decide +kernel⟩, List.mem_of_getElem? (i := 1617) (by decide +kernel), List.mem_of_getElem? (i := 1888) (by decide +kernel), List.mem_of_getElem? (i := 1889) (by decide +kernel)⟩
theorem lw_p82 : lw_okq (⟨"RivalWedsModel", "wealths", "()I"⟩, 24) := ⟨⟨by decide +kernel, by decide +kernel⟩, List.mem_of_getElem? (i := 1617) (by decide +kernel), List.mem_of_getElem? (i := 1895) (by decide +kernel), List.mem_of_getElem? (i := 1896) (by decide +kernel)⟩
theorem lw_p83 : lw_okq (⟨"RivalWedsModel", "two", "(II)I"⟩, 24) := ⟨⟨by decide +kernel, by decide +kernel⟩, List.mem_of_getElem? (i := 1617) (by decide +kernel), List.mem_of_getElem? (i := 1903) (by decide +kernel), List.mem_of_getElem? (i := 1904) (by decide +kernel)⟩
theorem lw_p84 : lw_okq (⟨"RivalWedsModel", "likes", "(II)I"⟩, 24) := ⟨⟨by decide +kernel, by decide +kernel⟩, List.mem_of_getElem? (i := 1617) (by decide +kernel), List.mem_of_getElem? (i := 1907) (by decide +kernel), List.mem_of_getElem? (i := 1908) (by decide +kernel)⟩
theorem lw_p85 : lw_okq (⟨"RivalWedsModel", "isMatch", "(I)Z"⟩, 24) := ⟨⟨by decide +kernel, by decide +kernel⟩, List.mem_of_getElem? (i := 1617) (by decide +kernel), List.mem_of_getElem? (i := 1915) (by decide +kernel), List.mem_of_getElem? (i := 1916) (by decide +kernel)⟩
theorem lw_p86 : lw_okq (⟨"RivalWedsModel", "insurers", "(I)I"⟩, 24) := ⟨⟨by decide +kernel, by decide +kernel⟩, List.mem_of_getElem? (i := 1617) (by decide +kernel), List.mem_of_getElem? (i := 1919) (by decide +kernel), List.mem_of_getElem? (i := 1920) (by decide +kernel)⟩
theorem lw_p87 : lw_okq (⟨"RivalWedsModel", "insurersOf", "(II)I"⟩, 24) := ⟨⟨by decide +kernel, by decide +kernel⟩, List.mem_of_getElem? (i := 1617) (by decide +kernel), List.mem_of_getElem? (i := 1923) (by decide +kernel), List.mem_of_getElem? (i := 1924) (by decide +kernel)⟩
theorem lw_p88 : lw_okq (⟨"RivalWedsModel", "turnsBy", "(II)I"⟩, 24) := ⟨⟨by decide +kernel, by decide +kernel⟩, List.mem_of_getElem? (i := 1617) (by decide +kernel), List.mem_of_getElem? (i := 1930) (by decide +kernel), List.mem_of_getElem? (i := 1931) (by decide +kernel)⟩
theorem lw_p89 : lw_okq (⟨"RivalWedsModel", "remembers", "()V"⟩, 24) := ⟨⟨by decide +kernel, by decide +kernel⟩, List.mem_of_getElem? (i := 1617) (by decide +kernel), List.mem_of_getElem? (i := 1938) (by decide +kernel), List.mem_of_getElem? (i := 1939) (by decide +kernel)⟩
theorem lw_p90 : lw_okq (⟨"RivalWedsModel", "insures", "(II)Z"⟩, 24) := ⟨⟨by decide +kernel, by decide +kernel⟩, List.mem_of_getElem? (i := 1617) (by decide +kernel), List.mem_of_getElem? (i := 1950) (by decide +kernel), List.mem_of_getElem? (i := 1951) (by decide +kernel)⟩
theorem lw_p91 : lw_okq (⟨"RivalWedsModel", "goes", "(I)I"⟩, 24) := ⟨⟨by decide +kernel, by decide +kernel⟩, List.mem_of_getElem? (i := 1617) (by decide +kernel), List.mem_of_getElem? (i := 1976) (by decide +kernel), List.mem_of_getElem? (i := 1977) (by decide +kernel)⟩
theorem lw_p92 : lw_okq (⟨"RivalWedsModel", "draw", "(I)I"⟩, 24) := ⟨⟨by decide +kernel, by decide +kernel⟩, List.mem_of_getElem? (i := 1617) (by decide +kernel), List.mem_of_getElem? (i := 1980) (by decide +kernel), List.mem_of_getElem? (i := 1981) (by decide +kernel)⟩
theorem lw_p93 : lw_okq (⟨"RivalWedsModel", "premiums", "(I)V"⟩, 24) := ⟨⟨by decide +kernel, by decide +kernel⟩, List.mem_of_getElem? (i := 1617) (by decide +kernel), List.mem_of_getElem? (i := 1985) (by decide +kernel), List.mem_of_getElem? (i := 1986) (by decide +kernel)⟩
theorem lw_p94 : lw_okq (⟨"RivalWedsModel", "gets", "(II)V"⟩, 24) := ⟨⟨by decide +kernel, by decide +kernel⟩, List.mem_of_getElem? (i := 1617) (by decide +kernel), List.mem_of_getElem? (i := 1989) (by decide +kernel), List.mem_of_getElem? (i := 1990) (by decide +kernel)⟩
theorem lw_p95 : lw_okq (⟨"RivalWedsModel", "nextOf", "(II)I"⟩, 24) := ⟨⟨by decide +kernel, by decide +kernel⟩, List.mem_of_getElem? (i := 1617) (by decide +kernel), List.mem_of_getElem? (i := 1993) (by decide +kernel), List.mem_of_getElem? (i := 1994) (by decide +kernel)⟩
def lw_privs_6 : List (MethodName × Nat) := [(⟨"RivalWedsModel", "isPerson", "(I)Z"⟩, 24), (⟨"RivalWedsModel", "askersOf", "(I)I"⟩, 24), (⟨"RivalWedsModel", "wealths", "()I"⟩, 24), (⟨"RivalWedsModel", "two", "(II)I"⟩, 24), (⟨"RivalWedsModel", "likes", "(II)I"⟩, 24), (⟨"RivalWedsModel", "isMatch", "(I)Z"⟩, 24), (⟨"RivalWedsModel", "insurers", "(I)I"⟩, 24), (⟨"RivalWedsModel", "insurersOf", "(II)I"⟩, 24), (⟨"RivalWedsModel", "turnsBy", "(II)I"⟩, 24), (⟨"RivalWedsModel", "remembers", "()V"⟩, 24), (⟨"RivalWedsModel", "insures", "(II)Z"⟩, 24), (⟨"RivalWedsModel", "goes", "(I)I"⟩, 24), (⟨"RivalWedsModel", "draw", "(I)I"⟩, 24), (⟨"RivalWedsModel", "premiums", "(I)V"⟩, 24), (⟨"RivalWedsModel", "gets", "(II)V"⟩, 24), (⟨"RivalWedsModel", "nextOf", "(II)I"⟩, 24)]
theorem lw_r6 : ∀ q ∈ lw_privs_6, lw_okq q := List.forall_mem_cons.mpr ⟨lw_p80, List.forall_mem_cons.mpr ⟨lw_p81, List.forall_mem_cons.mpr ⟨lw_p82, List.forall_mem_cons.mpr ⟨lw_p83, List.forall_mem_cons.mpr ⟨lw_p84, List.forall_mem_cons.mpr ⟨lw_p85, List.forall_mem_cons.mpr ⟨lw_p86, List.forall_mem_cons.mpr ⟨lw_p87, List.forall_mem_cons.mpr ⟨lw_p88, List.forall_mem_cons.mpr ⟨lw_p89, List.forall_mem_cons.mpr ⟨lw_p90, List.forall_mem_cons.mpr ⟨lw_p91, List.forall_mem_cons.mpr ⟨lw_p92, List.forall_mem_cons.mpr ⟨lw_p93, List.forall_mem_cons.mpr ⟨lw_p94, List.forall_mem_cons.mpr ⟨lw_p95, fun _ h => absurd h List.not_mem_nil⟩⟩⟩⟩⟩⟩⟩⟩⟩⟩⟩⟩⟩⟩⟩⟩
theorem lw_p96 : lw_okq (⟨"RivalWedsModel", "claims", "(I)I"⟩, 24) := ⟨⟨by decide +kernel, by decide +kernel⟩, List.mem_of_getElem? (i := 1617) (by decide +kernel), List.mem_of_getElem? (i := 1997) (by decide +kernel), List.mem_of_getElem? (i := 1998) (by decide +kernel)⟩
theorem lw_p97 : lw_okq (⟨"RivalWedsModel", "pays", "(II)I"⟩, 24) := ⟨⟨by decide +kernel, by decide +kernel⟩, List.mem_of_getElem? (i := 1617) (by decide +kernel), List.mem_of_getElem? (i := 2001) (by decide +kernel), List.mem_of_getElem? (i := 2002) (by decide +kernel)⟩
theorem lw_p98 : lw_okq (⟨"RivalWedsModel", "gives", "(II)I"⟩, 24) := ⟨⟨by decide +kernel, by decide +kernel⟩, List.mem_of_getElem? (i := 1617) (by decide +kernel), List.mem_of_getElem? (i := 2005) (by decide +kernel), List.mem_of_getElem? (i := 2006) (by decide +kernel)⟩
theorem lw_p99 : lw_okq (⟨"RivalWedsModel", "logs", "(III)V"⟩, 24) := ⟨⟨by decide +kernel, by decide +kernel⟩, List.mem_of_getElem? (i := 1617) (by decide +kernel), List.mem_of_getElem? (i := 2009) (by decide +kernel), List.mem_of_getElem? (i := 2010) (by decide +kernel)⟩
theorem lw_p100 : lw_okq (⟨"RivalWedsModel", "badMatch", "(IIII)I"⟩, 24) := ⟨⟨by decide +kernel, by decide +kernel⟩, List.mem_of_getElem? (i := 1617) (by decide +kernel), List.mem_of_getElem? (i := 2025) (by decide +kernel), List.mem_of_getElem? (i := 2026) (by decide +kernel)⟩
theorem lw_p101 : lw_okq (⟨"RivalWedsModel", "passes", "(II)V"⟩, 24) := ⟨⟨by decide +kernel, by decide +kernel⟩, List.mem_of_getElem? (i := 1617) (by decide +kernel), List.mem_of_getElem? (i := 2033) (by decide +kernel), List.mem_of_getElem? (i := 2034) (by decide +kernel)⟩
theorem lw_p102 : lw_okq (⟨"RivalWedsModel", "fallsNow", "()I"⟩, 24) := ⟨⟨by decide +kernel, by decide +kernel⟩, List.mem_of_getElem? (i := 1617) (by decide +kernel), List.mem_of_getElem? (i := 2049) (by decide +kernel), List.mem_of_getElem? (i := 2050) (by decide +kernel)⟩
theorem lw_p103 : lw_okq (⟨"RivalWedsModel", "ringOf", "(I)I"⟩, 24) := ⟨⟨by decide +kernel, by decide +kernel⟩, List.mem_of_getElem? (i := 1617) (by decide +kernel), List.mem_of_getElem? (i := 2065) (by decide +kernel), List.mem_of_getElem? (i := 2066) (by decide +kernel)⟩
theorem lw_p104 : lw_okq (⟨"RivalWedsModel", "leads", "(II)Z"⟩, 24) := ⟨⟨by decide +kernel, by decide +kernel⟩, List.mem_of_getElem? (i := 1617) (by decide +kernel), List.mem_of_getElem? (i := 2073) (by decide +kernel), List.mem_of_getElem? (i := 2074) (by decide +kernel)⟩
theorem lw_p105 : lw_okq (⟨"RivalWedsModel", "by", "(III)V"⟩, 24) := ⟨⟨by decide +kernel, by decide +kernel⟩, List.mem_of_getElem? (i := 1617) (by decide +kernel), List.mem_of_getElem? (i := 2085) (by decide +kernel), List.mem_of_getElem? (i := 2086) (by decide +kernel)⟩
theorem lw_p106 : lw_okq (⟨"RivalWedsModel", "fewest", "(II)I"⟩, 24) := ⟨⟨by decide +kernel, by decide +kernel⟩, List.mem_of_getElem? (i := 1617) (by decide +kernel), List.mem_of_getElem? (i := 2090) (by decide +kernel), List.mem_of_getElem? (i := 2091) (by decide +kernel)⟩
theorem lw_p107 : lw_okq (⟨"RivalWedsModel", "ofAside", "(I)I"⟩, 24) := ⟨⟨by decide +kernel, by decide +kernel⟩, List.mem_of_getElem? (i := 1617) (by decide +kernel), List.mem_of_getElem? (i := 2094) (by decide +kernel), List.mem_of_getElem? (i := 2095) (by decide +kernel)⟩
theorem lw_p108 : lw_okq (⟨"RivalWedsModel", "ratherOf", "(I)I"⟩, 24) := ⟨⟨by decide +kernel, by decide +kernel⟩, List.mem_of_getElem? (i := 1617) (by decide +kernel), List.mem_of_getElem? (i := 2102) (by decide +kernel), List.mem_of_getElem? (i := 2103) (by decide +kernel)⟩
theorem lw_p109 : lw_okq (⟨"RivalWedsModel", "pairsUp", "(Z)V"⟩, 24) := ⟨⟨by decide +kernel, by decide +kernel⟩, List.mem_of_getElem? (i := 1617) (by decide +kernel), List.mem_of_getElem? (i := 2114) (by decide +kernel), List.mem_of_getElem? (i := 2115) (by decide +kernel)⟩
theorem lw_p110 : lw_okq (⟨"RivalWedsModel", "isSteady", "()Z"⟩, 24) := ⟨⟨by decide +kernel, by decide +kernel⟩, List.mem_of_getElem? (i := 1617) (by decide +kernel), List.mem_of_getElem? (i := 2118) (by decide +kernel), List.mem_of_getElem? (i := 2119) (by decide +kernel)⟩
theorem lw_p111 : lw_okq (⟨"RivalWedsModel", "prefers", "(II)Z"⟩, 24) := ⟨⟨by decide +kernel, by decide +kernel⟩, List.mem_of_getElem? (i := 1617) (by decide +kernel), List.mem_of_getElem? (i := 2122) (by decide +kernel), List.mem_of_getElem? (i := 2123) (by decide +kernel)⟩
def lw_privs_7 : List (MethodName × Nat) := [(⟨"RivalWedsModel", "claims", "(I)I"⟩, 24), (⟨"RivalWedsModel", "pays", "(II)I"⟩, 24), (⟨"RivalWedsModel", "gives", "(II)I"⟩, 24), (⟨"RivalWedsModel", "logs", "(III)V"⟩, 24), (⟨"RivalWedsModel", "badMatch", "(IIII)I"⟩, 24), (⟨"RivalWedsModel", "passes", "(II)V"⟩, 24), (⟨"RivalWedsModel", "fallsNow", "()I"⟩, 24), (⟨"RivalWedsModel", "ringOf", "(I)I"⟩, 24), (⟨"RivalWedsModel", "leads", "(II)Z"⟩, 24), (⟨"RivalWedsModel", "by", "(III)V"⟩, 24), (⟨"RivalWedsModel", "fewest", "(II)I"⟩, 24), (⟨"RivalWedsModel", "ofAside", "(I)I"⟩, 24), (⟨"RivalWedsModel", "ratherOf", "(I)I"⟩, 24), (⟨"RivalWedsModel", "pairsUp", "(Z)V"⟩, 24), (⟨"RivalWedsModel", "isSteady", "()Z"⟩, 24), (⟨"RivalWedsModel", "prefers", "(II)Z"⟩, 24)]
theorem lw_r7 : ∀ q ∈ lw_privs_7, lw_okq q := List.forall_mem_cons.mpr ⟨lw_p96, List.forall_mem_cons.mpr ⟨lw_p97, List.forall_mem_cons.mpr ⟨lw_p98, List.forall_mem_cons.mpr ⟨lw_p99, List.forall_mem_cons.mpr ⟨lw_p100, List.forall_mem_cons.mpr ⟨lw_p101, List.forall_mem_cons.mpr ⟨lw_p102, List.forall_mem_cons.mpr ⟨lw_p103, List.forall_mem_cons.mpr ⟨lw_p104, List.forall_mem_cons.mpr ⟨lw_p105, List.forall_mem_cons.mpr ⟨lw_p106, List.forall_mem_cons.mpr ⟨lw_p107, List.forall_mem_cons.mpr ⟨lw_p108, List.forall_mem_cons.mpr ⟨lw_p109, List.forall_mem_cons.mpr ⟨lw_p110, List.forall_mem_cons.mpr ⟨lw_p111, fun _ h => absurd h List.not_mem_nil⟩⟩⟩⟩⟩⟩⟩⟩⟩⟩⟩⟩⟩⟩⟩⟩
theorem lw_p112 : lw_okq (⟨"RivalWedsModel", "mayWed", "(II)Z"⟩, 24) := ⟨⟨by decide +kernel, by decide +kernel⟩, List.mem_of_getElem? (i := 1617) (by decide +kernel), List.mem_of_getElem? (i := 2130) (by decide +kernel), List.mem_of_getElem? (i := 2131) (by decide +kernel)⟩
theorem lw_p113 : lw_okq (⟨"RivalWedsModel", "told", "()I"⟩, 24) := ⟨⟨by decide +kernel, by decide +kernel⟩, List.mem_of_getElem? (i := 1617) (by decide +kernel), List.mem_of_getElem? (i := 2138) (by decide +kernel), List.mem_of_getElem? (i := 2139) (by decide +kernel)⟩
theorem lw_p114 : lw_okq (⟨"RivalWedsModel", "with", "(I)I"⟩, 24) := ⟨⟨by decide +kernel, by decide +kernel⟩, List.mem_of_getElem? (i := 1617) (by decide +kernel), List.mem_of_getElem? (i := 2142) (by decide +kernel), List.mem_of_getElem? (i := 2143) (by decide +kernel)⟩
theorem lw_p115 : lw_okq (⟨"RivalWedsModel", "ruinedOnes", "()I"⟩, 24) := ⟨⟨by decide +kernel, by decide +kernel⟩, List.mem_of_getElem? (i := 1617) (by decide +kernel), List.mem_of_getElem? (i := 2158) (by decide +kernel), List.mem_of_getElem? (i := 2159) (by decide +kernel)⟩
theorem lw_p116 : lw_okq (⟨"RivalWedsModel", "logged", "(II)I"⟩, 24) := ⟨⟨by decide +kernel, by decide +kernel⟩, List.mem_of_getElem? (i := 1617) (by decide +kernel), List.mem_of_getElem? (i := 2170) (by decide +kernel), List.mem_of_getElem? (i := 2171) (by decide +kernel)⟩
theorem lw_p117 : lw_okq (⟨"RivalWedsModel", "wedOnes", "()I"⟩, 24) := ⟨⟨by decide +kernel, by decide +kernel⟩, List.mem_of_getElem? (i := 1617) (by decide +kernel), List.mem_of_getElem? (i := 2198) (by decide +kernel), List.mem_of_getElem? (i := 2199) (by decide +kernel)⟩
def lw_privs_8 : List (MethodName × Nat) := [(⟨"RivalWedsModel", "mayWed", "(II)Z"⟩, 24), (⟨"RivalWedsModel", "told", "()I"⟩, 24), (⟨"RivalWedsModel", "with", "(I)I"⟩, 24), (⟨"RivalWedsModel", "ruinedOnes", "()I"⟩, 24), (⟨"RivalWedsModel", "logged", "(II)I"⟩, 24), (⟨"RivalWedsModel", "wedOnes", "()I"⟩, 24)]
theorem lw_r8 : ∀ q ∈ lw_privs_8, lw_okq q := List.forall_mem_cons.mpr ⟨lw_p112, List.forall_mem_cons.mpr ⟨lw_p113, List.forall_mem_cons.mpr ⟨lw_p114, List.forall_mem_cons.mpr ⟨lw_p115, List.forall_mem_cons.mpr ⟨lw_p116, List.forall_mem_cons.mpr ⟨lw_p117, fun _ h => absurd h List.not_mem_nil⟩⟩⟩⟩⟩⟩
def lw_privs : List (MethodName × Nat) := lw_privs_1 ++ (lw_privs_2 ++ (lw_privs_3 ++ (lw_privs_4 ++ (lw_privs_5 ++ (lw_privs_6 ++ (lw_privs_7 ++ (lw_privs_8)))))))
def lw_tbl : List Cond := k2_sels lw_privs ++ tables_1
theorem lw_privs_ok : ∀ q ∈ lw_privs, lw_okq q := by
  show ∀ q ∈ lw_privs_1 ++ (lw_privs_2 ++ (lw_privs_3 ++ (lw_privs_4 ++ (lw_privs_5 ++ (lw_privs_6 ++ (lw_privs_7 ++ (lw_privs_8))))))), lw_okq q
  exact List.forall_mem_append.mpr ⟨lw_r1, List.forall_mem_append.mpr ⟨lw_r2, List.forall_mem_append.mpr ⟨lw_r3, List.forall_mem_append.mpr ⟨lw_r4, List.forall_mem_append.mpr ⟨lw_r5, List.forall_mem_append.mpr ⟨lw_r6, List.forall_mem_append.mpr ⟨lw_r7, lw_r8⟩⟩⟩⟩⟩⟩⟩
-- ===== end of PART A; then your names; then what follows =====
def RX0 : String := "RivalWeds$Foresight"
def TX0 : u_T := fun k => match k with
  | 0 => ("RivalWeds$Foresight", "scratch", "LRivalWeds$Town;", true)
  | 1 => ("RivalWeds$Foresight", "look", "LRivalWeds$Look;", true)
  | 2 => ("RivalWeds$Foresight", "cost", "LRivalWeds$Row;", true)
  | _ => ("RivalWeds$Foresight", "costBehind", "LRivalWeds$Row;", true)
def tyX0 : Nat → FieldType := fun k => match k with
  | 0 => .object "RivalWeds$Town"
  | 1 => .object "RivalWeds$Look"
  | 2 => .object "RivalWeds$Row"
  | _ => .object "RivalWeds$Row"
theorem nmX0 : ∀ a, a < 4 → ∀ b, b < 4 → a ≠ b → (TX0 a).2.1 ≠ (TX0 b).2.1 := by decide +kernel
theorem tyX0_ok : ∀ k, k < 4 → parseFieldDescriptor (TX0 k).2.2.1 = some (tyX0 k) := by decide +kernel
abbrev cX0_init : ByteArray := prog_2_method_1_code
def yX0_init : MethodName := ⟨RX0, "<init>", "()V"⟩
abbrev cX0_turnsNow : ByteArray := prog_2_method_2_code
def yX0_turnsNow : MethodName := ⟨RX0, "turnsNow", "(LRivalWeds$Town;LRivalWeds$Law;I)I"⟩
abbrev cX0_happyNext : ByteArray := prog_2_method_3_code
def yX0_happyNext : MethodName := ⟨RX0, "happyNext", "(LRivalWeds$Town;LRivalWeds$Law;II)I"⟩
abbrev cX0_happyAhead : ByteArray := prog_2_method_4_code
def yX0_happyAhead : MethodName := ⟨RX0, "happyAhead", "(LRivalWeds$Town;LRivalWeds$Law;III)I"⟩
abbrev cX0_firstClaim : ByteArray := prog_2_method_5_code
def yX0_firstClaim : MethodName := ⟨RX0, "firstClaim", "(LRivalWeds$Town;LRivalWeds$Law;II)I"⟩
abbrev cX0_claimQuarrels : ByteArray := prog_2_method_6_code
def yX0_claimQuarrels : MethodName := ⟨RX0, "claimQuarrels", "(LRivalWeds$Town;LRivalWeds$Law;I)I"⟩
abbrev cX0_fewestGifts : ByteArray := prog_2_method_7_code
def yX0_fewestGifts : MethodName := ⟨RX0, "fewestGifts", "(LRivalWeds$Town;LRivalWeds$Law;III)I"⟩
abbrev cX0_addGifts : ByteArray := prog_2_method_8_code
def yX0_addGifts : MethodName := ⟨RX0, "addGifts", "()V"⟩
abbrev cX0_passCosts : ByteArray := prog_2_method_9_code
def yX0_passCosts : MethodName := ⟨RX0, "passCosts", "(LRivalWeds$Law;I)V"⟩
abbrev cX0_claimAll : ByteArray := prog_2_method_10_code
def yX0_claimAll : MethodName := ⟨RX0, "claimAll", "()V"⟩
abbrev cX0_fallen : ByteArray := prog_2_method_11_code
def yX0_fallen : MethodName := ⟨RX0, "fallen", "(LRivalWeds$Town;)I"⟩
abbrev cX0_lossOf : ByteArray := prog_2_method_12_code
def yX0_lossOf : MethodName := ⟨RX0, "lossOf", "(LRivalWeds$Town;I)I"⟩
abbrev cX0_leastWealth : ByteArray := prog_2_method_13_code
def yX0_leastWealth : MethodName := ⟨RX0, "leastWealth", "(LRivalWeds$Town;I)I"⟩
abbrev cX0_tryMonths : ByteArray := prog_2_method_14_code
def yX0_tryMonths : MethodName := ⟨RX0, "tryMonths", "(LRivalWeds$Town;LRivalWeds$Law;II)I"⟩
abbrev cX0_ruinedInTrial : ByteArray := prog_2_method_15_code
def yX0_ruinedInTrial : MethodName := ⟨RX0, "ruinedInTrial", "()I"⟩
def RX1 : String := "RivalWeds$Kind"
def TX1 : u_T := fun k => match k with
  | _ => ("", "", "", false)
def tyX1 : Nat → FieldType := fun k => match k with
  | _ => .int
theorem nmX1 : ∀ a, a < 0 → ∀ b, b < 0 → a ≠ b → (TX1 a).2.1 ≠ (TX1 b).2.1 := by decide +kernel
theorem tyX1_ok : ∀ k, k < 0 → parseFieldDescriptor (TX1 k).2.2.1 = some (tyX1 k) := by decide +kernel
abbrev cX1_spelt : ByteArray := prog_3_method_4_code
def yX1_spelt : MethodName := ⟨RX1, "spelt", "(LRivalWeds$Row;II)LRivalWeds$Kind;"⟩
abbrev cX1_isSpelt : ByteArray := prog_3_method_5_code
def yX1_isSpelt : MethodName := ⟨RX1, "isSpelt", "(LRivalWeds$Row;II)Z"⟩
def RX2 : String := "RivalWeds$Law"
def TX2 : u_T := fun k => match k with
  | 0 => ("RivalWeds$Law", "amounts", "LRivalWeds$Row;", true)
  | 1 => ("RivalWeds$Law", "ends", "LRivalWeds$Row;", true)
  | 2 => ("RivalWeds$Law", "codes", "[I", true)
  | 3 => ("RivalWeds$Law", "stack", "LRivalWeds$Row;", true)
  | 4 => ("RivalWeds$Law", "codeCount", "I", false)
  | _ => ("RivalWeds$Law", "lines", "I", false)
def tyX2 : Nat → FieldType := fun k => match k with
  | 0 => .object "RivalWeds$Row"
  | 1 => .object "RivalWeds$Row"
  | 2 => .array .int
  | 3 => .object "RivalWeds$Row"
  | 4 => .int
  | _ => .int
theorem nmX2 : ∀ a, a < 6 → ∀ b, b < 6 → a ≠ b → (TX2 a).2.1 ≠ (TX2 b).2.1 := by decide +kernel
theorem tyX2_ok : ∀ k, k < 6 → parseFieldDescriptor (TX2 k).2.2.1 = some (tyX2 k) := by decide +kernel
abbrev cX2_init : ByteArray := prog_4_method_1_code
def yX2_init : MethodName := ⟨RX2, "<init>", "()V"⟩
abbrev cX2_clearLines : ByteArray := prog_4_method_2_code
def yX2_clearLines : MethodName := ⟨RX2, "clearLines", "()V"⟩
abbrev cX2_addCode : ByteArray := prog_4_method_3_code
def yX2_addCode : MethodName := ⟨RX2, "addCode", "(I)V"⟩
abbrev cX2_addLine : ByteArray := prog_4_method_4_code
def yX2_addLine : MethodName := ⟨RX2, "addLine", "(I)V"⟩
abbrev cX2_copyAll : ByteArray := prog_4_method_5_code
def yX2_copyAll : MethodName := ⟨RX2, "copyAll", "(LRivalWeds$Law;)V"⟩
abbrev cX2_isPart : ByteArray := prog_4_method_6_code
def yX2_isPart : MethodName := ⟨RX2, "isPart", "(I)Z"⟩
abbrev cX2_turnsBy : ByteArray := prog_4_method_7_code
def yX2_turnsBy : MethodName := ⟨RX2, "turnsBy", "(LRivalWeds$Look;)I"⟩
abbrev cX2_isMet : ByteArray := prog_4_method_8_code
def yX2_isMet : MethodName := ⟨RX2, "isMet", "(IILRivalWeds$Look;)Z"⟩
abbrev cX2_joined : ByteArray := prog_4_method_9_code
def yX2_joined : MethodName := ⟨RX2, "joined", "(III)I"⟩
def RX3 : String := "RivalWeds$LawText"
def TX3 : u_T := fun k => match k with
  | 0 => ("RivalWeds$Text", "bytes", "LRivalWeds$Row;", true)
  | 1 => ("RivalWeds$Text", "kinds", "[LRivalWeds$Kind;", true)
  | 2 => ("RivalWeds$Text", "begins", "[I", true)
  | 3 => ("RivalWeds$Text", "stops", "[I", true)
  | 4 => ("RivalWeds$Text", "numbers", "[I", true)
  | 5 => ("RivalWeds$Text", "things", "I", false)
  | 6 => ("RivalWeds$Text", "length", "I", false)
  | 7 => ("RivalWeds$Text", "index", "I", false)
  | 8 => ("RivalWeds$Text", "kind", "LRivalWeds$Kind;", false)
  | 9 => ("RivalWeds$Text", "begin", "I", false)
  | 10 => ("RivalWeds$Text", "stop", "I", false)
  | 11 => ("RivalWeds$Text", "number", "I", false)
  | 12 => ("RivalWeds$Text", "wrong", "I", false)
  | _ => ("RivalWeds$LawText", "draft", "LRivalWeds$Law;", true)
def tyX3 : Nat → FieldType := fun k => match k with
  | 0 => .object "RivalWeds$Row"
  | 1 => .array (.object "RivalWeds$Kind")
  | 2 => .array .int
  | 3 => .array .int
  | 4 => .array .int
  | 5 => .int
  | 6 => .int
  | 7 => .int
  | 8 => .object "RivalWeds$Kind"
  | 9 => .int
  | 10 => .int
  | 11 => .int
  | 12 => .int
  | _ => .object "RivalWeds$Law"
theorem nmX3 : ∀ a, a < 14 → ∀ b, b < 14 → a ≠ b → (TX3 a).2.1 ≠ (TX3 b).2.1 := by decide +kernel
theorem tyX3_ok : ∀ k, k < 14 → parseFieldDescriptor (TX3 k).2.2.1 = some (tyX3 k) := by decide +kernel
abbrev cX3_init : ByteArray := prog_5_method_1_code
def yX3_init : MethodName := ⟨RX3, "<init>", "()V"⟩
abbrev cX3_readsLine : ByteArray := prog_5_method_2_code
def yX3_readsLine : MethodName := ⟨RX3, "readsLine", "()Z"⟩
abbrev cX3_readsEither : ByteArray := prog_5_method_3_code
def yX3_readsEither : MethodName := ⟨RX3, "readsEither", "(I)Z"⟩
abbrev cX3_readsAll : ByteArray := prog_5_method_4_code
def yX3_readsAll : MethodName := ⟨RX3, "readsAll", "(I)Z"⟩
abbrev cX3_readsAtom : ByteArray := prog_5_method_5_code
def yX3_readsAtom : MethodName := ⟨RX3, "readsAtom", "(I)Z"⟩
abbrev cX3_readsNot : ByteArray := prog_5_method_6_code
def yX3_readsNot : MethodName := ⟨RX3, "readsNot", "(I)Z"⟩
abbrev cX3_readsSum : ByteArray := prog_5_method_7_code
def yX3_readsSum : MethodName := ⟨RX3, "readsSum", "()Z"⟩
def RX4 : String := "RivalWeds$Look"
def TX4 : u_T := fun k => match k with
  | 0 => ("RivalWeds$Look", "happy", "I", false)
  | 1 => ("RivalWeds$Look", "months", "I", false)
  | 2 => ("RivalWeds$Look", "quarrel", "I", false)
  | 3 => ("RivalWeds$Look", "insurers", "I", false)
  | 4 => ("RivalWeds$Look", "liking", "I", false)
  | 5 => ("RivalWeds$Look", "month", "I", false)
  | _ => ("RivalWeds$Look", "rich", "Z", false)
def tyX4 : Nat → FieldType := fun k => match k with
  | 0 => .int
  | 1 => .int
  | 2 => .int
  | 3 => .int
  | 4 => .int
  | 5 => .int
  | _ => .boolean
theorem nmX4 : ∀ a, a < 7 → ∀ b, b < 7 → a ≠ b → (TX4 a).2.1 ≠ (TX4 b).2.1 := by decide +kernel
theorem tyX4_ok : ∀ k, k < 7 → parseFieldDescriptor (TX4 k).2.2.1 = some (tyX4 k) := by decide +kernel
abbrev cX4_init : ByteArray := prog_6_method_1_code
def yX4_init : MethodName := ⟨RX4, "<init>", "()V"⟩
abbrev cX4_valueOf : ByteArray := prog_6_method_2_code
def yX4_valueOf : MethodName := ⟨RX4, "valueOf", "(I)I"⟩
abbrev cX4_happyTurned : ByteArray := prog_6_method_3_code
def yX4_happyTurned : MethodName := ⟨RX4, "happyTurned", "(LRivalWeds$Law;)I"⟩
abbrev cX4_happyBehindMonth : ByteArray := prog_6_method_4_code
def yX4_happyBehindMonth : MethodName := ⟨RX4, "happyBehindMonth", "(LRivalWeds$Law;)I"⟩
abbrev cX4_passTime : ByteArray := prog_6_method_5_code
def yX4_passTime : MethodName := ⟨RX4, "passTime", "()V"⟩
def RX5 : String := "RivalWeds$Pairs"
def TX5 : u_T := fun k => match k with
  | 0 => ("RivalWeds$Pairs", "partner", "LRivalWeds$Row;", true)
  | 1 => ("RivalWeds$Pairs", "firstWay", "LRivalWeds$Row;", true)
  | _ => ("RivalWeds$Pairs", "ways", "I", false)
def tyX5 : Nat → FieldType := fun k => match k with
  | 0 => .object "RivalWeds$Row"
  | 1 => .object "RivalWeds$Row"
  | _ => .int
theorem nmX5 : ∀ a, a < 3 → ∀ b, b < 3 → a ≠ b → (TX5 a).2.1 ≠ (TX5 b).2.1 := by decide +kernel
theorem tyX5_ok : ∀ k, k < 3 → parseFieldDescriptor (TX5 k).2.2.1 = some (tyX5 k) := by decide +kernel
abbrev cX5_init : ByteArray := prog_7_method_1_code
def yX5_init : MethodName := ⟨RX5, "<init>", "()V"⟩
abbrev cX5_bestFor : ByteArray := prog_7_method_2_code
def yX5_bestFor : MethodName := ⟨RX5, "bestFor", "(LRivalWeds$Town;I)I"⟩
abbrev cX5_isBetter : ByteArray := prog_7_method_3_code
def yX5_isBetter : MethodName := ⟨RX5, "isBetter", "(LRivalWeds$Town;III)Z"⟩
abbrev cX5_preferred : ByteArray := prog_7_method_4_code
def yX5_preferred : MethodName := ⟨RX5, "preferred", "(LRivalWeds$Town;I)I"⟩
abbrev cX5_areLovers : ByteArray := prog_7_method_5_code
def yX5_areLovers : MethodName := ⟨RX5, "areLovers", "(LRivalWeds$Town;II)Z"⟩
abbrev cX5_loverPairs : ByteArray := prog_7_method_6_code
def yX5_loverPairs : MethodName := ⟨RX5, "loverPairs", "(LRivalWeds$Town;)I"⟩
abbrev cX5_firstLovers : ByteArray := prog_7_method_7_code
def yX5_firstLovers : MethodName := ⟨RX5, "firstLovers", "(LRivalWeds$Town;)I"⟩
abbrev cX5_steadyWays : ByteArray := prog_7_method_8_code
def yX5_steadyWays : MethodName := ⟨RX5, "steadyWays", "(LRivalWeds$Town;)I"⟩
abbrev cX5_steadyPartner : ByteArray := prog_7_method_9_code
def yX5_steadyPartner : MethodName := ⟨RX5, "steadyPartner", "(LRivalWeds$Town;I)I"⟩
abbrev cX5_pairUp : ByteArray := prog_7_method_10_code
def yX5_pairUp : MethodName := ⟨RX5, "pairUp", "(LRivalWeds$Town;ZI)V"⟩
abbrev cX5_tryPair : ByteArray := prog_7_method_11_code
def yX5_tryPair : MethodName := ⟨RX5, "tryPair", "(LRivalWeds$Town;IIZI)V"⟩
abbrev cX5_firstWithout : ByteArray := prog_7_method_12_code
def yX5_firstWithout : MethodName := ⟨RX5, "firstWithout", "(I)I"⟩
abbrev cX5_countIfSteady : ByteArray := prog_7_method_13_code
def yX5_countIfSteady : MethodName := ⟨RX5, "countIfSteady", "(LRivalWeds$Town;)V"⟩
abbrev cX5_wouldLeaveFor : ByteArray := prog_7_method_14_code
def yX5_wouldLeaveFor : MethodName := ⟨RX5, "wouldLeaveFor", "(LRivalWeds$Town;II)Z"⟩
abbrev cX5_mostWeddings : ByteArray := prog_7_method_15_code
def yX5_mostWeddings : MethodName := ⟨RX5, "mostWeddings", "(LRivalWeds$Town;)I"⟩
abbrev cX5_mostPairs : ByteArray := prog_7_method_16_code
def yX5_mostPairs : MethodName := ⟨RX5, "mostPairs", "(LRivalWeds$Town;II)I"⟩
def RX6 : String := "RivalWeds$Row"
def TX6 : u_T := fun k => match k with
  | _ => ("RivalWeds$Row", "cells", "[I", true)
def tyX6 : Nat → FieldType := fun k => match k with
  | _ => .array .int
theorem nmX6 : ∀ a, a < 1 → ∀ b, b < 1 → a ≠ b → (TX6 a).2.1 ≠ (TX6 b).2.1 := by decide +kernel
theorem tyX6_ok : ∀ k, k < 1 → parseFieldDescriptor (TX6 k).2.2.1 = some (tyX6 k) := by decide +kernel
abbrev cX6_init : ByteArray := prog_8_method_1_code
def yX6_init : MethodName := ⟨RX6, "<init>", "(I)V"⟩
abbrev cX6_at : ByteArray := prog_8_method_2_code
def yX6_at : MethodName := ⟨RX6, "at", "(I)I"⟩
abbrev cX6_put : ByteArray := prog_8_method_3_code
def yX6_put : MethodName := ⟨RX6, "put", "(II)V"⟩
abbrev cX6_putAll : ByteArray := prog_8_method_4_code
def yX6_putAll : MethodName := ⟨RX6, "putAll", "(I)V"⟩
abbrev cX6_copyAll : ByteArray := prog_8_method_5_code
def yX6_copyAll : MethodName := ⟨RX6, "copyAll", "(LRivalWeds$Row;)V"⟩
def RX7 : String := "RivalWeds$Text"
def TX7 : u_T := fun k => match k with
  | _ => ("", "", "", false)
def tyX7 : Nat → FieldType := fun k => match k with
  | _ => .int
theorem nmX7 : ∀ a, a < 0 → ∀ b, b < 0 → a ≠ b → (TX7 a).2.1 ≠ (TX7 b).2.1 := by decide +kernel
theorem tyX7_ok : ∀ k, k < 0 → parseFieldDescriptor (TX7 k).2.2.1 = some (tyX7 k) := by decide +kernel
abbrev cX7_init : ByteArray := prog_9_method_1_code
def yX7_init : MethodName := ⟨RX7, "<init>", "()V"⟩
abbrev cX7_linesOf : ByteArray := prog_9_method_3_code
def yX7_linesOf : MethodName := ⟨RX7, "linesOf", "(LRivalWeds$Row;II)I"⟩
abbrev cX7_cut : ByteArray := prog_9_method_4_code
def yX7_cut : MethodName := ⟨RX7, "cut", "()V"⟩
abbrev cX7_stopOf : ByteArray := prog_9_method_5_code
def yX7_stopOf : MethodName := ⟨RX7, "stopOf", "(I)I"⟩
abbrev cX7_addThing : ByteArray := prog_9_method_6_code
def yX7_addThing : MethodName := ⟨RX7, "addThing", "(II)V"⟩
abbrev cX7_numberAt : ByteArray := prog_9_method_7_code
def yX7_numberAt : MethodName := ⟨RX7, "numberAt", "(II)I"⟩
abbrev cX7_isLetter : ByteArray := prog_9_method_8_code
def yX7_isLetter : MethodName := ⟨RX7, "isLetter", "(I)Z"⟩
abbrev cX7_isDigit : ByteArray := prog_9_method_9_code
def yX7_isDigit : MethodName := ⟨RX7, "isDigit", "(I)Z"⟩
abbrev cX7_advance : ByteArray := prog_9_method_10_code
def yX7_advance : MethodName := ⟨RX7, "advance", "()V"⟩
abbrev cX7_refuse : ByteArray := prog_9_method_11_code
def yX7_refuse : MethodName := ⟨RX7, "refuse", "()Z"⟩
abbrev cX7_takes : ByteArray := prog_9_method_12_code
def yX7_takes : MethodName := ⟨RX7, "takes", "(LRivalWeds$Kind;)Z"⟩
abbrev cX7_needs : ByteArray := prog_9_method_13_code
def yX7_needs : MethodName := ⟨RX7, "needs", "(LRivalWeds$Kind;)Z"⟩
abbrev cX7_takeNumber : ByteArray := prog_9_method_14_code
def yX7_takeNumber : MethodName := ⟨RX7, "takeNumber", "(I)I"⟩
def RX8 : String := "RivalWeds$ToldSets"
def TX8 : u_T := fun k => match k with
  | 0 => ("RivalWeds$ToldSets", "rowSets", "LRivalWeds$Row;", true)
  | 1 => ("RivalWeds$ToldSets", "rowCounts", "LRivalWeds$Row;", true)
  | 2 => ("RivalWeds$ToldSets", "countsWith", "LRivalWeds$Row;", true)
  | 3 => ("RivalWeds$ToldSets", "rows", "I", false)
  | _ => ("RivalWeds$ToldSets", "people", "I", false)
def tyX8 : Nat → FieldType := fun k => match k with
  | 0 => .object "RivalWeds$Row"
  | 1 => .object "RivalWeds$Row"
  | 2 => .object "RivalWeds$Row"
  | 3 => .int
  | _ => .int
theorem nmX8 : ∀ a, a < 5 → ∀ b, b < 5 → a ≠ b → (TX8 a).2.1 ≠ (TX8 b).2.1 := by decide +kernel
theorem tyX8_ok : ∀ k, k < 5 → parseFieldDescriptor (TX8 k).2.2.1 = some (tyX8 k) := by decide +kernel
abbrev cX8_init : ByteArray := prog_10_method_1_code
def yX8_init : MethodName := ⟨RX8, "<init>", "()V"⟩
abbrev cX8_reads : ByteArray := prog_10_method_2_code
def yX8_reads : MethodName := ⟨RX8, "reads", "(LRivalWeds$Row;II)Z"⟩
abbrev cX8_fits : ByteArray := prog_10_method_3_code
def yX8_fits : MethodName := ⟨RX8, "fits", "(I)Z"⟩
abbrev cX8_fitting : ByteArray := prog_10_method_4_code
def yX8_fitting : MethodName := ⟨RX8, "fitting", "()I"⟩
abbrev cX8_addMembers : ByteArray := prog_10_method_5_code
def yX8_addMembers : MethodName := ⟨RX8, "addMembers", "(I)V"⟩
abbrev cX8_inAll : ByteArray := prog_10_method_6_code
def yX8_inAll : MethodName := ⟨RX8, "inAll", "()I"⟩
abbrev cX8_bestParter : ByteArray := prog_10_method_7_code
def yX8_bestParter : MethodName := ⟨RX8, "bestParter", "()I"⟩
def RX9 : String := "RivalWeds$Town"
def TX9 : u_T := fun k => match k with
  | 0 => ("RivalWeds$Town", "wealth", "LRivalWeds$Row;", true)
  | 1 => ("RivalWeds$Town", "asked", "LRivalWeds$Row;", true)
  | 2 => ("RivalWeds$Town", "reinsurer", "LRivalWeds$Row;", true)
  | 3 => ("RivalWeds$Town", "likings", "LRivalWeds$Row;", true)
  | 4 => ("RivalWeds$Town", "both", "LRivalWeds$Row;", true)
  | 5 => ("RivalWeds$Town", "happy", "LRivalWeds$Row;", true)
  | 6 => ("RivalWeds$Town", "monthsWed", "LRivalWeds$Row;", true)
  | 7 => ("RivalWeds$Town", "logCells", "LRivalWeds$Row;", true)
  | 8 => ("RivalWeds$Town", "people", "I", false)
  | 9 => ("RivalWeds$Town", "ruined", "I", false)
  | 10 => ("RivalWeds$Town", "matches", "I", false)
  | 11 => ("RivalWeds$Town", "over", "I", false)
  | 12 => ("RivalWeds$Town", "bar", "I", false)
  | 13 => ("RivalWeds$Town", "premium", "I", false)
  | 14 => ("RivalWeds$Town", "pays", "I", false)
  | 15 => ("RivalWeds$Town", "month", "I", false)
  | 16 => ("RivalWeds$Town", "quarrel", "I", false)
  | 17 => ("RivalWeds$Town", "seed", "I", false)
  | 18 => ("RivalWeds$Town", "texts", "I", false)
  | _ => ("RivalWeds$Town", "claims", "I", false)
def tyX9 : Nat → FieldType := fun k => match k with
  | 0 => .object "RivalWeds$Row"
  | 1 => .object "RivalWeds$Row"
  | 2 => .object "RivalWeds$Row"
  | 3 => .object "RivalWeds$Row"
  | 4 => .object "RivalWeds$Row"
  | 5 => .object "RivalWeds$Row"
  | 6 => .object "RivalWeds$Row"
  | 7 => .object "RivalWeds$Row"
  | 8 => .int
  | 9 => .int
  | 10 => .int
  | 11 => .int
  | 12 => .int
  | 13 => .int
  | 14 => .int
  | 15 => .int
  | 16 => .int
  | 17 => .int
  | 18 => .int
  | _ => .int
theorem nmX9 : ∀ a, a < 20 → ∀ b, b < 20 → a ≠ b → (TX9 a).2.1 ≠ (TX9 b).2.1 := by decide +kernel
theorem tyX9_ok : ∀ k, k < 20 → parseFieldDescriptor (TX9 k).2.2.1 = some (tyX9 k) := by decide +kernel
abbrev cX9_init : ByteArray := prog_11_method_1_code
def yX9_init : MethodName := ⟨RX9, "<init>", "()V"⟩
abbrev cX9_copyAll : ByteArray := prog_11_method_2_code
def yX9_copyAll : MethodName := ⟨RX9, "copyAll", "(LRivalWeds$Town;)V"⟩
abbrev cX9_copyPurses : ByteArray := prog_11_method_3_code
def yX9_copyPurses : MethodName := ⟨RX9, "copyPurses", "(LRivalWeds$Town;)V"⟩
abbrev cX9_hasPerson : ByteArray := prog_11_method_4_code
def yX9_hasPerson : MethodName := ⟨RX9, "hasPerson", "(I)Z"⟩
abbrev cX9_addPerson : ByteArray := prog_11_method_5_code
def yX9_addPerson : MethodName := ⟨RX9, "addPerson", "(I)V"⟩
abbrev cX9_likingOf : ByteArray := prog_11_method_6_code
def yX9_likingOf : MethodName := ⟨RX9, "likingOf", "(II)I"⟩
abbrev cX9_setLiking : ByteArray := prog_11_method_7_code
def yX9_setLiking : MethodName := ⟨RX9, "setLiking", "(III)V"⟩
abbrev cX9_addAsked : ByteArray := prog_11_method_8_code
def yX9_addAsked : MethodName := ⟨RX9, "addAsked", "(II)Z"⟩
abbrev cX9_askersOf : ByteArray := prog_11_method_9_code
def yX9_askersOf : MethodName := ⟨RX9, "askersOf", "(I)I"⟩
abbrev cX9_isRuined : ByteArray := prog_11_method_10_code
def yX9_isRuined : MethodName := ⟨RX9, "isRuined", "(I)Z"⟩
abbrev cX9_wealthOfAll : ByteArray := prog_11_method_11_code
def yX9_wealthOfAll : MethodName := ⟨RX9, "wealthOfAll", "()I"⟩
abbrev cX9_shareOf : ByteArray := prog_11_method_12_code
def yX9_shareOf : MethodName := ⟨RX9, "shareOf", "(I)I"⟩
abbrev cX9_richestPerson : ByteArray := prog_11_method_13_code
def yX9_richestPerson : MethodName := ⟨RX9, "richestPerson", "()I"⟩
abbrev cX9_ringSteps : ByteArray := prog_11_method_14_code
def yX9_ringSteps : MethodName := ⟨RX9, "ringSteps", "(I)I"⟩
abbrev cX9_ringCount : ByteArray := prog_11_method_15_code
def yX9_ringCount : MethodName := ⟨RX9, "ringCount", "()I"⟩
abbrev cX9_isLeastOfRing : ByteArray := prog_11_method_16_code
def yX9_isLeastOfRing : MethodName := ⟨RX9, "isLeastOfRing", "(I)Z"⟩
abbrev cX9_leaners : ByteArray := prog_11_method_17_code
def yX9_leaners : MethodName := ⟨RX9, "leaners", "(I)I"⟩
abbrev cX9_comesTo : ByteArray := prog_11_method_18_code
def yX9_comesTo : MethodName := ⟨RX9, "comesTo", "(II)Z"⟩
abbrev cX9_firstOf : ByteArray := prog_11_method_19_code
def yX9_firstOf : MethodName := ⟨RX9, "firstOf", "(I)I"⟩
abbrev cX9_secondOf : ByteArray := prog_11_method_20_code
def yX9_secondOf : MethodName := ⟨RX9, "secondOf", "(I)I"⟩
abbrev cX9_isOver : ByteArray := prog_11_method_21_code
def yX9_isOver : MethodName := ⟨RX9, "isOver", "(I)Z"⟩
abbrev cX9_endMatch : ByteArray := prog_11_method_22_code
def yX9_endMatch : MethodName := ⟨RX9, "endMatch", "(I)V"⟩
abbrev cX9_addMatch : ByteArray := prog_11_method_23_code
def yX9_addMatch : MethodName := ⟨RX9, "addMatch", "(III)I"⟩
abbrev cX9_changeHappy : ByteArray := prog_11_method_24_code
def yX9_changeHappy : MethodName := ⟨RX9, "changeHappy", "(II)I"⟩
abbrev cX9_spouseOf : ByteArray := prog_11_method_25_code
def yX9_spouseOf : MethodName := ⟨RX9, "spouseOf", "(I)I"⟩
abbrev cX9_isWed : ByteArray := prog_11_method_26_code
def yX9_isWed : MethodName := ⟨RX9, "isWed", "(I)Z"⟩
abbrev cX9_wedPeople : ByteArray := prog_11_method_27_code
def yX9_wedPeople : MethodName := ⟨RX9, "wedPeople", "()I"⟩
abbrev cX9_insurersOfPair : ByteArray := prog_11_method_28_code
def yX9_insurersOfPair : MethodName := ⟨RX9, "insurersOfPair", "(II)I"⟩
abbrev cX9_insurersOf : ByteArray := prog_11_method_29_code
def yX9_insurersOf : MethodName := ⟨RX9, "insurersOf", "(I)I"⟩
abbrev cX9_lookAt : ByteArray := prog_11_method_30_code
def yX9_lookAt : MethodName := ⟨RX9, "lookAt", "(IILRivalWeds$Look;)V"⟩
abbrev cX9_passMonth : ByteArray := prog_11_method_31_code
def yX9_passMonth : MethodName := ⟨RX9, "passMonth", "(LRivalWeds$Law;LRivalWeds$Look;)V"⟩
abbrev cX9_passMatch : ByteArray := prog_11_method_32_code
def yX9_passMatch : MethodName := ⟨RX9, "passMatch", "(ILRivalWeds$Law;LRivalWeds$Look;)V"⟩
abbrev cX9_payPremiums : ByteArray := prog_11_method_33_code
def yX9_payPremiums : MethodName := ⟨RX9, "payPremiums", "(I)V"⟩
abbrev cX9_payClaim : ByteArray := prog_11_method_34_code
def yX9_payClaim : MethodName := ⟨RX9, "payClaim", "(I)I"⟩
abbrev cX9_payOut : ByteArray := prog_11_method_35_code
def yX9_payOut : MethodName := ⟨RX9, "payOut", "(I)I"⟩
abbrev cX9_ruinIfShort : ByteArray := prog_11_method_36_code
def yX9_ruinIfShort : MethodName := ⟨RX9, "ruinIfShort", "(II)V"⟩
abbrev cX9_take : ByteArray := prog_11_method_37_code
def yX9_take : MethodName := ⟨RX9, "take", "(II)I"⟩
abbrev cX9_give : ByteArray := prog_11_method_38_code
def yX9_give : MethodName := ⟨RX9, "give", "(II)V"⟩
abbrev cX9_addToLog : ByteArray := prog_11_method_39_code
def yX9_addToLog : MethodName := ⟨RX9, "addToLog", "(III)V"⟩
abbrev cX9_logRows : ByteArray := prog_11_method_40_code
def yX9_logRows : MethodName := ⟨RX9, "logRows", "()I"⟩
abbrev cX9_logged : ByteArray := prog_11_method_41_code
def yX9_logged : MethodName := ⟨RX9, "logged", "(II)I"⟩
abbrev cX9_loggedClaims : ByteArray := prog_11_method_42_code
def yX9_loggedClaims : MethodName := ⟨RX9, "loggedClaims", "(I)I"⟩
abbrev cX9_loggedPaid : ByteArray := prog_11_method_43_code
def yX9_loggedPaid : MethodName := ⟨RX9, "loggedPaid", "(I)I"⟩
def RX10 : String := "RivalWeds$TownText"
def TX10 : u_T := fun k => match k with
  | 0 => ("RivalWeds$Text", "bytes", "LRivalWeds$Row;", true)
  | 1 => ("RivalWeds$Text", "kinds", "[LRivalWeds$Kind;", true)
  | 2 => ("RivalWeds$Text", "begins", "[I", true)
  | 3 => ("RivalWeds$Text", "stops", "[I", true)
  | 4 => ("RivalWeds$Text", "numbers", "[I", true)
  | 5 => ("RivalWeds$Text", "things", "I", false)
  | 6 => ("RivalWeds$Text", "length", "I", false)
  | 7 => ("RivalWeds$Text", "index", "I", false)
  | 8 => ("RivalWeds$Text", "kind", "LRivalWeds$Kind;", false)
  | 9 => ("RivalWeds$Text", "begin", "I", false)
  | 10 => ("RivalWeds$Text", "stop", "I", false)
  | 11 => ("RivalWeds$Text", "number", "I", false)
  | 12 => ("RivalWeds$Text", "wrong", "I", false)
  | _ => ("RivalWeds$TownText", "draft", "LRivalWeds$Town;", true)
def tyX10 : Nat → FieldType := fun k => match k with
  | 0 => .object "RivalWeds$Row"
  | 1 => .array (.object "RivalWeds$Kind")
  | 2 => .array .int
  | 3 => .array .int
  | 4 => .array .int
  | 5 => .int
  | 6 => .int
  | 7 => .int
  | 8 => .object "RivalWeds$Kind"
  | 9 => .int
  | 10 => .int
  | 11 => .int
  | 12 => .int
  | _ => .object "RivalWeds$Town"
theorem nmX10 : ∀ a, a < 14 → ∀ b, b < 14 → a ≠ b → (TX10 a).2.1 ≠ (TX10 b).2.1 := by decide +kernel
theorem tyX10_ok : ∀ k, k < 14 → parseFieldDescriptor (TX10 k).2.2.1 = some (tyX10 k) := by decide +kernel
abbrev cX10_init : ByteArray := prog_12_method_1_code
def yX10_init : MethodName := ⟨RX10, "<init>", "()V"⟩
abbrev cX10_readsLine : ByteArray := prog_12_method_2_code
def yX10_readsLine : MethodName := ⟨RX10, "readsLine", "()Z"⟩
abbrev cX10_readsPerson : ByteArray := prog_12_method_3_code
def yX10_readsPerson : MethodName := ⟨RX10, "readsPerson", "()Z"⟩
abbrev cX10_readsLikes : ByteArray := prog_12_method_4_code
def yX10_readsLikes : MethodName := ⟨RX10, "readsLikes", "()Z"⟩
abbrev cX10_readsTwo : ByteArray := prog_12_method_5_code
def yX10_readsTwo : MethodName := ⟨RX10, "readsTwo", "(Z)Z"⟩
abbrev cX10_readsWed : ByteArray := prog_12_method_6_code
def yX10_readsWed : MethodName := ⟨RX10, "readsWed", "()Z"⟩
abbrev cX10_readsSetting : ByteArray := prog_12_method_7_code
def yX10_readsSetting : MethodName := ⟨RX10, "readsSetting", "(LRivalWeds$Kind;)Z"⟩
abbrev cX10_takeSomebody : ByteArray := prog_12_method_8_code
def yX10_takeSomebody : MethodName := ⟨RX10, "takeSomebody", "(IZ)I"⟩
def RX11 : String := "RivalWeds"
def TX11 : u_T := fun k => match k with
  | 0 => ("RivalWeds", "tape", "LRivalWeds$Row;", true)
  | 1 => ("RivalWeds", "town", "LRivalWeds$Town;", true)
  | 2 => ("RivalWeds", "law", "LRivalWeds$Law;", true)
  | 3 => ("RivalWeds", "imageTown", "LRivalWeds$Town;", true)
  | 4 => ("RivalWeds", "imageLaw", "LRivalWeds$Law;", true)
  | 5 => ("RivalWeds", "remembered", "[LRivalWeds$Town;", true)
  | 6 => ("RivalWeds", "townText", "LRivalWeds$TownText;", true)
  | 7 => ("RivalWeds", "lawText", "LRivalWeds$LawText;", true)
  | 8 => ("RivalWeds", "look", "LRivalWeds$Look;", true)
  | 9 => ("RivalWeds", "foresight", "LRivalWeds$Foresight;", true)
  | 10 => ("RivalWeds", "pairs", "LRivalWeds$Pairs;", true)
  | 11 => ("RivalWeds", "toldSets", "LRivalWeds$ToldSets;", true)
  | 12 => ("RivalWeds", "tapeLength", "I", false)
  | 13 => ("RivalWeds", "wrongByte", "I", false)
  | 14 => ("RivalWeds", "imageKept", "Z", false)
  | 15 => ("RivalWeds", "oldestAct", "I", false)
  | _ => ("RivalWeds", "acts", "I", false)
def tyX11 : Nat → FieldType := fun k => match k with
  | 0 => .object "RivalWeds$Row"
  | 1 => .object "RivalWeds$Town"
  | 2 => .object "RivalWeds$Law"
  | 3 => .object "RivalWeds$Town"
  | 4 => .object "RivalWeds$Law"
  | 5 => .array (.object "RivalWeds$Town")
  | 6 => .object "RivalWeds$TownText"
  | 7 => .object "RivalWeds$LawText"
  | 8 => .object "RivalWeds$Look"
  | 9 => .object "RivalWeds$Foresight"
  | 10 => .object "RivalWeds$Pairs"
  | 11 => .object "RivalWeds$ToldSets"
  | 12 => .int
  | 13 => .int
  | 14 => .boolean
  | 15 => .int
  | _ => .int
theorem nmX11 : ∀ a, a < 17 → ∀ b, b < 17 → a ≠ b → (TX11 a).2.1 ≠ (TX11 b).2.1 := by decide +kernel
theorem tyX11_ok : ∀ k, k < 17 → parseFieldDescriptor (TX11 k).2.2.1 = some (tyX11 k) := by decide +kernel
abbrev cX11_init : ByteArray := prog_1_method_1_code
def yX11_init : MethodName := ⟨RX11, "<init>", "()V"⟩
abbrev cX11_feed : ByteArray := prog_1_method_2_code
def yX11_feed : MethodName := ⟨RX11, "feed", "(IIIII)I"⟩
abbrev cX11_feedNumber : ByteArray := prog_1_method_3_code
def yX11_feedNumber : MethodName := ⟨RX11, "feedNumber", "(I)V"⟩
abbrev cX11_end : ByteArray := prog_1_method_4_code
def yX11_end : MethodName := ⟨RX11, "end", "(I)Z"⟩
abbrev cX11_useTapeUp : ByteArray := prog_1_method_5_code
def yX11_useTapeUp : MethodName := ⟨RX11, "useTapeUp", "()I"⟩
abbrev cX11_town : ByteArray := prog_1_method_6_code
def yX11_town : MethodName := ⟨RX11, "town", "()I"⟩
abbrev cX11_law : ByteArray := prog_1_method_7_code
def yX11_law : MethodName := ⟨RX11, "law", "()I"⟩
abbrev cX11_fault : ByteArray := prog_1_method_8_code
def yX11_fault : MethodName := ⟨RX11, "fault", "()I"⟩
abbrev cX11_person : ByteArray := prog_1_method_9_code
def yX11_person : MethodName := ⟨RX11, "person", "(II)I"⟩
abbrev cX11_liking : ByteArray := prog_1_method_10_code
def yX11_liking : MethodName := ⟨RX11, "liking", "(II)I"⟩
abbrev cX11_match : ByteArray := prog_1_method_11_code
def yX11_match : MethodName := ⟨RX11, "match", "(II)I"⟩
abbrev cX11_ask : ByteArray := prog_1_method_12_code
def yX11_ask : MethodName := ⟨RX11, "ask", "(II)Z"⟩
abbrev cX11_wed : ByteArray := prog_1_method_13_code
def yX11_wed : MethodName := ⟨RX11, "wed", "(II)I"⟩
abbrev cX11_gift : ByteArray := prog_1_method_14_code
def yX11_gift : MethodName := ⟨RX11, "gift", "(II)I"⟩
abbrev cX11_meddle : ByteArray := prog_1_method_15_code
def yX11_meddle : MethodName := ⟨RX11, "meddle", "(II)I"⟩
abbrev cX11_reinsure : ByteArray := prog_1_method_16_code
def yX11_reinsure : MethodName := ⟨RX11, "reinsure", "(II)I"⟩
abbrev cX11_part : ByteArray := prog_1_method_17_code
def yX11_part : MethodName := ⟨RX11, "part", "(I)I"⟩
abbrev cX11_months : ByteArray := prog_1_method_18_code
def yX11_months : MethodName := ⟨RX11, "months", "(I)I"⟩
abbrev cX11_would : ByteArray := prog_1_method_19_code
def yX11_would : MethodName := ⟨RX11, "would", "(II)I"⟩
abbrev cX11_best : ByteArray := prog_1_method_20_code
def yX11_best : MethodName := ⟨RX11, "best", "(I)I"⟩
abbrev cX11_next : ByteArray := prog_1_method_21_code
def yX11_next : MethodName := ⟨RX11, "next", "(II)I"⟩
abbrev cX11_ahead : ByteArray := prog_1_method_22_code
def yX11_ahead : MethodName := ⟨RX11, "ahead", "(III)I"⟩
abbrev cX11_first : ByteArray := prog_1_method_23_code
def yX11_first : MethodName := ⟨RX11, "first", "(II)I"⟩
abbrev cX11_odds : ByteArray := prog_1_method_24_code
def yX11_odds : MethodName := ⟨RX11, "odds", "(I)I"⟩
abbrev cX11_gifts : ByteArray := prog_1_method_25_code
def yX11_gifts : MethodName := ⟨RX11, "gifts", "(III)I"⟩
abbrev cX11_falls : ByteArray := prog_1_method_26_code
def yX11_falls : MethodName := ⟨RX11, "falls", "()I"⟩
abbrev cX11_loses : ByteArray := prog_1_method_27_code
def yX11_loses : MethodName := ⟨RX11, "loses", "(I)I"⟩
abbrev cX11_holds : ByteArray := prog_1_method_28_code
def yX11_holds : MethodName := ⟨RX11, "holds", "(I)I"⟩
abbrev cX11_ring : ByteArray := prog_1_method_29_code
def yX11_ring : MethodName := ⟨RX11, "ring", "(I)I"⟩
abbrev cX11_rings : ByteArray := prog_1_method_30_code
def yX11_rings : MethodName := ⟨RX11, "rings", "()I"⟩
abbrev cX11_leans : ByteArray := prog_1_method_31_code
def yX11_leans : MethodName := ⟨RX11, "leans", "(I)I"⟩
abbrev cX11_rather : ByteArray := prog_1_method_32_code
def yX11_rather : MethodName := ⟨RX11, "rather", "(I)I"⟩
abbrev cX11_lovers : ByteArray := prog_1_method_33_code
def yX11_lovers : MethodName := ⟨RX11, "lovers", "(Z)I"⟩
abbrev cX11_steady : ByteArray := prog_1_method_34_code
def yX11_steady : MethodName := ⟨RX11, "steady", "(I)I"⟩
abbrev cX11_weddings : ByteArray := prog_1_method_35_code
def yX11_weddings : MethodName := ⟨RX11, "weddings", "()I"⟩
abbrev cX11_anniversary : ByteArray := prog_1_method_36_code
def yX11_anniversary : MethodName := ⟨RX11, "anniversary", "(Z)I"⟩
abbrev cX11_dance : ByteArray := prog_1_method_37_code
def yX11_dance : MethodName := ⟨RX11, "dance", "()I"⟩
abbrev cX11_readTold : ByteArray := prog_1_method_38_code
def yX11_readTold : MethodName := ⟨RX11, "readTold", "()V"⟩
abbrev cX11_richest : ByteArray := prog_1_method_39_code
def yX11_richest : MethodName := ⟨RX11, "richest", "()I"⟩
abbrev cX11_trial : ByteArray := prog_1_method_40_code
def yX11_trial : MethodName := ⟨RX11, "trial", "(IZ)I"⟩
abbrev cX11_span : ByteArray := prog_1_method_41_code
def yX11_span : MethodName := ⟨RX11, "span", "(IZ)I"⟩
abbrev cX11_led : ByteArray := prog_1_method_42_code
def yX11_led : MethodName := ⟨RX11, "led", "(IZ)I"⟩
abbrev cX11_log : ByteArray := prog_1_method_43_code
def yX11_log : MethodName := ⟨RX11, "log", "(II)I"⟩
abbrev cX11_seed : ByteArray := prog_1_method_44_code
def yX11_seed : MethodName := ⟨RX11, "seed", "(I)I"⟩
abbrev cX11_undo : ByteArray := prog_1_method_45_code
def yX11_undo : MethodName := ⟨RX11, "undo", "()Z"⟩
abbrev cX11_remember : ByteArray := prog_1_method_46_code
def yX11_remember : MethodName := ⟨RX11, "remember", "()V"⟩
abbrev cX11_rememberedTown : ByteArray := prog_1_method_47_code
def yX11_rememberedTown : MethodName := ⟨RX11, "rememberedTown", "(I)LRivalWeds$Town;"⟩
abbrev cX11_forgetActs : ByteArray := prog_1_method_48_code
def yX11_forgetActs : MethodName := ⟨RX11, "forgetActs", "()V"⟩
abbrev cX11_image : ByteArray := prog_1_method_49_code
def yX11_image : MethodName := ⟨RX11, "image", "()V"⟩
abbrev cX11_back : ByteArray := prog_1_method_50_code
def yX11_back : MethodName := ⟨RX11, "back", "()Z"⟩
abbrev cX11_count : ByteArray := prog_1_method_51_code
def yX11_count : MethodName := ⟨RX11, "count", "(I)I"⟩
abbrev cX11_checkPerson : ByteArray := prog_1_method_52_code
def yX11_checkPerson : MethodName := ⟨RX11, "checkPerson", "(I)V"⟩
abbrev cX11_checkTwo : ByteArray := prog_1_method_53_code
def yX11_checkTwo : MethodName := ⟨RX11, "checkTwo", "(II)V"⟩
abbrev cX11_checkMatch : ByteArray := prog_1_method_54_code
def yX11_checkMatch : MethodName := ⟨RX11, "checkMatch", "(I)V"⟩
abbrev cX11_checkGoesOn : ByteArray := prog_1_method_55_code
def yX11_checkGoesOn : MethodName := ⟨RX11, "checkGoesOn", "(I)V"⟩
abbrev cX11_checkInsurer : ByteArray := prog_1_method_56_code
def yX11_checkInsurer : MethodName := ⟨RX11, "checkInsurer", "(II)V"⟩
abbrev cX11_checkNumber : ByteArray := prog_1_method_57_code
def yX11_checkNumber : MethodName := ⟨RX11, "checkNumber", "(III)V"⟩
abbrev cX11_checkQuarrel : ByteArray := prog_1_method_58_code
def yX11_checkQuarrel : MethodName := ⟨RX11, "checkQuarrel", "(I)V"⟩
abbrev cX11_contains : ByteArray := prog_1_method_59_code
def yX11_contains : MethodName := ⟨RX11, "contains", "(II)Z"⟩
abbrev cX11_happyWithin : ByteArray := prog_1_method_60_code
def yX11_happyWithin : MethodName := ⟨RX11, "happyWithin", "(I)I"⟩
def RX12 : String := "RivalWedsModel"
def TX12 : u_T := fun k => match k with
  | 0 => ("RivalWedsModel", "thrown", "I", false)
  | 1 => ("RivalWedsModel", "m", "[I", true)
  | 2 => ("RivalWedsModel", "kept", "[I", true)
  | 3 => ("RivalWedsModel", "hasImage", "Z", false)
  | 4 => ("RivalWedsModel", "aside", "[I", true)
  | 5 => ("RivalWedsModel", "acts", "[I", true)
  | 6 => ("RivalWedsModel", "acted", "I", false)
  | 7 => ("RivalWedsModel", "tape", "[I", true)
  | 8 => ("RivalWedsModel", "taped", "I", false)
  | 9 => ("RivalWedsModel", "base", "I", false)
  | 10 => ("RivalWedsModel", "end", "I", false)
  | 11 => ("RivalWedsModel", "at", "I", false)
  | 12 => ("RivalWedsModel", "fault", "I", false)
  | 13 => ("RivalWedsModel", "deep", "I", false)
  | 14 => ("RivalWedsModel", "fact", "[I", true)
  | 15 => ("RivalWedsModel", "isRich", "Z", false)
  | 16 => ("RivalWedsModel", "turns", "I", false)
  | 17 => ("RivalWedsModel", "gifts", "[I", true)
  | 18 => ("RivalWedsModel", "turned", "[I", true)
  | 19 => ("RivalWedsModel", "by", "[I", true)
  | 20 => ("RivalWedsModel", "first", "[I", true)
  | 21 => ("RivalWedsModel", "ways", "I", false)
  | 22 => ("RivalWedsModel", "fits", "[Z", true)
  | _ => ("RivalWedsModel", "pairs", "[I", true)
def tyX12 : Nat → FieldType := fun k => match k with
  | 0 => .int
  | 1 => .array .int
  | 2 => .array .int
  | 3 => .boolean
  | 4 => .array .int
  | 5 => .array .int
  | 6 => .int
  | 7 => .array .int
  | 8 => .int
  | 9 => .int
  | 10 => .int
  | 11 => .int
  | 12 => .int
  | 13 => .int
  | 14 => .array .int
  | 15 => .boolean
  | 16 => .int
  | 17 => .array .int
  | 18 => .array .int
  | 19 => .array .int
  | 20 => .array .int
  | 21 => .int
  | 22 => .array .boolean
  | _ => .array .int
theorem nmX12 : ∀ a, a < 24 → ∀ b, b < 24 → a ≠ b → (TX12 a).2.1 ≠ (TX12 b).2.1 := by decide +kernel
theorem tyX12_ok : ∀ k, k < 24 → parseFieldDescriptor (TX12 k).2.2.1 = some (tyX12 k) := by decide +kernel
abbrev cX12_init : ByteArray := prog_14_method_1_code
def yX12_init : MethodName := ⟨RX12, "<init>", "()V"⟩
abbrev cX12_thrown : ByteArray := prog_14_method_2_code
def yX12_thrown : MethodName := ⟨RX12, "thrown", "()I"⟩
abbrev cX12_isIn : ByteArray := prog_14_method_3_code
def yX12_isIn : MethodName := ⟨RX12, "isIn", "(III)Z"⟩
abbrev cX12_lesser : ByteArray := prog_14_method_4_code
def yX12_lesser : MethodName := ⟨RX12, "lesser", "(II)I"⟩
abbrev cX12_greater : ByteArray := prog_14_method_5_code
def yX12_greater : MethodName := ⟨RX12, "greater", "(II)I"⟩
abbrev cX12_isOf : ByteArray := prog_14_method_6_code
def yX12_isOf : MethodName := ⟨RX12, "isOf", "(II)Z"⟩
abbrev cX12_bits : ByteArray := prog_14_method_7_code
def yX12_bits : MethodName := ⟨RX12, "bits", "(I)I"⟩
abbrev cX12_of : ByteArray := prog_14_method_8_code
def yX12_of : MethodName := ⟨RX12, "of", "(II)I"⟩
abbrev cX12_has : ByteArray := prog_14_method_9_code
def yX12_has : MethodName := ⟨RX12, "has", "(III)V"⟩
abbrev cX12_ofMatch : ByteArray := prog_14_method_10_code
def yX12_ofMatch : MethodName := ⟨RX12, "ofMatch", "(II)I"⟩
abbrev cX12_told : ByteArray := prog_14_method_11_code
def yX12_told : MethodName := ⟨RX12, "told", "(III)V"⟩
abbrev cX12_likes : ByteArray := prog_14_method_12_code
def yX12_likes : MethodName := ⟨RX12, "likes", "(II)I"⟩
abbrev cX12_isPerson : ByteArray := prog_14_method_13_code
def yX12_isPerson : MethodName := ⟨RX12, "isPerson", "(I)Z"⟩
abbrev cX12_isMatch : ByteArray := prog_14_method_14_code
def yX12_isMatch : MethodName := ⟨RX12, "isMatch", "(I)Z"⟩
abbrev cX12_wedTo : ByteArray := prog_14_method_15_code
def yX12_wedTo : MethodName := ⟨RX12, "wedTo", "(I)I"⟩
abbrev cX12_insurersOf : ByteArray := prog_14_method_16_code
def yX12_insurersOf : MethodName := ⟨RX12, "insurersOf", "(II)I"⟩
abbrev cX12_insurers : ByteArray := prog_14_method_17_code
def yX12_insurers : MethodName := ⟨RX12, "insurers", "(I)I"⟩
abbrev cX12_feed : ByteArray := prog_14_method_18_code
def yX12_feed : MethodName := ⟨RX12, "feed", "(IIIII)I"⟩
abbrev cX12_end : ByteArray := prog_14_method_19_code
def yX12_end : MethodName := ⟨RX12, "end", "(I)Z"⟩
abbrev cX12_letter : ByteArray := prog_14_method_20_code
def yX12_letter : MethodName := ⟨RX12, "letter", "(I)I"⟩
abbrev cX12_skip : ByteArray := prog_14_method_21_code
def yX12_skip : MethodName := ⟨RX12, "skip", "()V"⟩
abbrev cX12_isSign : ByteArray := prog_14_method_22_code
def yX12_isSign : MethodName := ⟨RX12, "isSign", "(I)Z"⟩
abbrev cX12_says : ByteArray := prog_14_method_23_code
def yX12_says : MethodName := ⟨RX12, "says", "(Ljava/lang/String;)Z"⟩
abbrev cX12_wrong : ByteArray := prog_14_method_24_code
def yX12_wrong : MethodName := ⟨RX12, "wrong", "(I)V"⟩
abbrev cX12_place : ByteArray := prog_14_method_25_code
def yX12_place : MethodName := ⟨RX12, "place", "()I"⟩
abbrev cX12_figures : ByteArray := prog_14_method_26_code
def yX12_figures : MethodName := ⟨RX12, "figures", "(II)I"⟩
abbrev cX12_after : ByteArray := prog_14_method_27_code
def yX12_after : MethodName := ⟨RX12, "after", "(Ljava/lang/String;II)I"⟩
abbrev cX12_who : ByteArray := prog_14_method_28_code
def yX12_who : MethodName := ⟨RX12, "who", "()I"⟩
abbrev cX12_other : ByteArray := prog_14_method_29_code
def yX12_other : MethodName := ⟨RX12, "other", "(I)I"⟩
abbrev cX12_likings : ByteArray := prog_14_method_30_code
def yX12_likings : MethodName := ⟨RX12, "likings", "()V"⟩
abbrev cX12_free : ByteArray := prog_14_method_31_code
def yX12_free : MethodName := ⟨RX12, "free", "(II)V"⟩
abbrev cX12_wedLine : ByteArray := prog_14_method_32_code
def yX12_wedLine : MethodName := ⟨RX12, "wedLine", "(I)V"⟩
abbrev cX12_comes : ByteArray := prog_14_method_33_code
def yX12_comes : MethodName := ⟨RX12, "comes", "(III)V"⟩
abbrev cX12_personLine : ByteArray := prog_14_method_34_code
def yX12_personLine : MethodName := ⟨RX12, "personLine", "(I)V"⟩
abbrev cX12_tells : ByteArray := prog_14_method_35_code
def yX12_tells : MethodName := ⟨RX12, "tells", "(II)V"⟩
abbrev cX12_townLine : ByteArray := prog_14_method_36_code
def yX12_townLine : MethodName := ⟨RX12, "townLine", "()V"⟩
abbrev cX12_begins : ByteArray := prog_14_method_37_code
def yX12_begins : MethodName := ⟨RX12, "begins", "()V"⟩
abbrev cX12_read : ByteArray := prog_14_method_38_code
def yX12_read : MethodName := ⟨RX12, "read", "(Z)I"⟩
abbrev cX12_putsAside : ByteArray := prog_14_method_39_code
def yX12_putsAside : MethodName := ⟨RX12, "putsAside", "()V"⟩
abbrev cX12_comesBack : ByteArray := prog_14_method_40_code
def yX12_comesBack : MethodName := ⟨RX12, "comesBack", "()V"⟩
abbrev cX12_town : ByteArray := prog_14_method_41_code
def yX12_town : MethodName := ⟨RX12, "town", "()I"⟩
abbrev cX12_part : ByteArray := prog_14_method_42_code
def yX12_part : MethodName := ⟨RX12, "part", "()I"⟩
abbrev cX12_sum : ByteArray := prog_14_method_43_code
def yX12_sum : MethodName := ⟨RX12, "sum", "()I"⟩
abbrev cX12_plain : ByteArray := prog_14_method_44_code
def yX12_plain : MethodName := ⟨RX12, "plain", "()Z"⟩
abbrev cX12_atom : ByteArray := prog_14_method_45_code
def yX12_atom : MethodName := ⟨RX12, "atom", "()Z"⟩
abbrev cX12_every : ByteArray := prog_14_method_46_code
def yX12_every : MethodName := ⟨RX12, "every", "()Z"⟩
abbrev cX12_some : ByteArray := prog_14_method_47_code
def yX12_some : MethodName := ⟨RX12, "some", "()Z"⟩
abbrev cX12_lawLine : ByteArray := prog_14_method_48_code
def yX12_lawLine : MethodName := ⟨RX12, "lawLine", "()V"⟩
abbrev cX12_law : ByteArray := prog_14_method_49_code
def yX12_law : MethodName := ⟨RX12, "law", "()I"⟩
abbrev cX12_fault : ByteArray := prog_14_method_50_code
def yX12_fault : MethodName := ⟨RX12, "fault", "()I"⟩
abbrev cX12_turnsBy : ByteArray := prog_14_method_51_code
def yX12_turnsBy : MethodName := ⟨RX12, "turnsBy", "(II)I"⟩
abbrev cX12_nextOf : ByteArray := prog_14_method_52_code
def yX12_nextOf : MethodName := ⟨RX12, "nextOf", "(II)I"⟩
abbrev cX12_gets : ByteArray := prog_14_method_53_code
def yX12_gets : MethodName := ⟨RX12, "gets", "(II)V"⟩
abbrev cX12_gives : ByteArray := prog_14_method_54_code
def yX12_gives : MethodName := ⟨RX12, "gives", "(II)I"⟩
abbrev cX12_pays : ByteArray := prog_14_method_55_code
def yX12_pays : MethodName := ⟨RX12, "pays", "(II)I"⟩
abbrev cX12_claims : ByteArray := prog_14_method_56_code
def yX12_claims : MethodName := ⟨RX12, "claims", "(I)I"⟩
abbrev cX12_premiums : ByteArray := prog_14_method_57_code
def yX12_premiums : MethodName := ⟨RX12, "premiums", "(I)V"⟩
abbrev cX12_draw : ByteArray := prog_14_method_58_code
def yX12_draw : MethodName := ⟨RX12, "draw", "(I)I"⟩
abbrev cX12_logs : ByteArray := prog_14_method_59_code
def yX12_logs : MethodName := ⟨RX12, "logs", "(III)V"⟩
abbrev cX12_goes : ByteArray := prog_14_method_60_code
def yX12_goes : MethodName := ⟨RX12, "goes", "(I)I"⟩
abbrev cX12_askersOf : ByteArray := prog_14_method_61_code
def yX12_askersOf : MethodName := ⟨RX12, "askersOf", "(I)I"⟩
abbrev cX12_wealths : ByteArray := prog_14_method_62_code
def yX12_wealths : MethodName := ⟨RX12, "wealths", "()I"⟩
abbrev cX12_person : ByteArray := prog_14_method_63_code
def yX12_person : MethodName := ⟨RX12, "person", "(II)I"⟩
abbrev cX12_two : ByteArray := prog_14_method_64_code
def yX12_two : MethodName := ⟨RX12, "two", "(II)I"⟩
abbrev cX12_liking : ByteArray := prog_14_method_65_code
def yX12_liking : MethodName := ⟨RX12, "liking", "(II)I"⟩
abbrev cX12_match : ByteArray := prog_14_method_66_code
def yX12_match : MethodName := ⟨RX12, "match", "(II)I"⟩
abbrev cX12_remembers : ByteArray := prog_14_method_67_code
def yX12_remembers : MethodName := ⟨RX12, "remembers", "()V"⟩
abbrev cX12_ask : ByteArray := prog_14_method_68_code
def yX12_ask : MethodName := ⟨RX12, "ask", "(II)Z"⟩
abbrev cX12_wed : ByteArray := prog_14_method_69_code
def yX12_wed : MethodName := ⟨RX12, "wed", "(II)I"⟩
abbrev cX12_insures : ByteArray := prog_14_method_70_code
def yX12_insures : MethodName := ⟨RX12, "insures", "(II)Z"⟩
abbrev cX12_gift : ByteArray := prog_14_method_71_code
def yX12_gift : MethodName := ⟨RX12, "gift", "(II)I"⟩
abbrev cX12_meddle : ByteArray := prog_14_method_72_code
def yX12_meddle : MethodName := ⟨RX12, "meddle", "(II)I"⟩
abbrev cX12_reinsure : ByteArray := prog_14_method_73_code
def yX12_reinsure : MethodName := ⟨RX12, "reinsure", "(II)I"⟩
abbrev cX12_part_ : ByteArray := prog_14_method_74_code
def yX12_part_ : MethodName := ⟨RX12, "part", "(I)I"⟩
abbrev cX12_months : ByteArray := prog_14_method_75_code
def yX12_months : MethodName := ⟨RX12, "months", "(I)I"⟩
abbrev cX12_would : ByteArray := prog_14_method_76_code
def yX12_would : MethodName := ⟨RX12, "would", "(II)I"⟩
abbrev cX12_best : ByteArray := prog_14_method_77_code
def yX12_best : MethodName := ⟨RX12, "best", "(I)I"⟩
abbrev cX12_badMatch : ByteArray := prog_14_method_78_code
def yX12_badMatch : MethodName := ⟨RX12, "badMatch", "(IIII)I"⟩
abbrev cX12_next : ByteArray := prog_14_method_79_code
def yX12_next : MethodName := ⟨RX12, "next", "(II)I"⟩
abbrev cX12_passes : ByteArray := prog_14_method_80_code
def yX12_passes : MethodName := ⟨RX12, "passes", "(II)V"⟩
abbrev cX12_ahead : ByteArray := prog_14_method_81_code
def yX12_ahead : MethodName := ⟨RX12, "ahead", "(III)I"⟩
abbrev cX12_first : ByteArray := prog_14_method_82_code
def yX12_first : MethodName := ⟨RX12, "first", "(II)I"⟩
abbrev cX12_odds : ByteArray := prog_14_method_83_code
def yX12_odds : MethodName := ⟨RX12, "odds", "(I)I"⟩
abbrev cX12_fallsNow : ByteArray := prog_14_method_84_code
def yX12_fallsNow : MethodName := ⟨RX12, "fallsNow", "()I"⟩
abbrev cX12_falls : ByteArray := prog_14_method_85_code
def yX12_falls : MethodName := ⟨RX12, "falls", "()I"⟩
abbrev cX12_loses : ByteArray := prog_14_method_86_code
def yX12_loses : MethodName := ⟨RX12, "loses", "(I)I"⟩
abbrev cX12_holds : ByteArray := prog_14_method_87_code
def yX12_holds : MethodName := ⟨RX12, "holds", "(I)I"⟩
abbrev cX12_ringOf : ByteArray := prog_14_method_88_code
def yX12_ringOf : MethodName := ⟨RX12, "ringOf", "(I)I"⟩
abbrev cX12_ring : ByteArray := prog_14_method_89_code
def yX12_ring : MethodName := ⟨RX12, "ring", "(I)I"⟩
abbrev cX12_leads : ByteArray := prog_14_method_90_code
def yX12_leads : MethodName := ⟨RX12, "leads", "(II)Z"⟩
abbrev cX12_rings : ByteArray := prog_14_method_91_code
def yX12_rings : MethodName := ⟨RX12, "rings", "()I"⟩
abbrev cX12_leans : ByteArray := prog_14_method_92_code
def yX12_leans : MethodName := ⟨RX12, "leans", "(I)I"⟩
abbrev cX12_gifts : ByteArray := prog_14_method_93_code
def yX12_gifts : MethodName := ⟨RX12, "gifts", "(III)I"⟩
abbrev cX12_ofAside : ByteArray := prog_14_method_94_code
def yX12_ofAside : MethodName := ⟨RX12, "ofAside", "(I)I"⟩
abbrev cX12_by : ByteArray := prog_14_method_95_code
def yX12_by : MethodName := ⟨RX12, "by", "(III)V"⟩
abbrev cX12_fewest : ByteArray := prog_14_method_96_code
def yX12_fewest : MethodName := ⟨RX12, "fewest", "(II)I"⟩
abbrev cX12_ratherOf : ByteArray := prog_14_method_97_code
def yX12_ratherOf : MethodName := ⟨RX12, "ratherOf", "(I)I"⟩
abbrev cX12_rather : ByteArray := prog_14_method_98_code
def yX12_rather : MethodName := ⟨RX12, "rather", "(I)I"⟩
abbrev cX12_lovers : ByteArray := prog_14_method_99_code
def yX12_lovers : MethodName := ⟨RX12, "lovers", "(Z)I"⟩
abbrev cX12_prefers : ByteArray := prog_14_method_100_code
def yX12_prefers : MethodName := ⟨RX12, "prefers", "(II)Z"⟩
abbrev cX12_isSteady : ByteArray := prog_14_method_101_code
def yX12_isSteady : MethodName := ⟨RX12, "isSteady", "()Z"⟩
abbrev cX12_pairsUp : ByteArray := prog_14_method_102_code
def yX12_pairsUp : MethodName := ⟨RX12, "pairsUp", "(Z)V"⟩
abbrev cX12_steady : ByteArray := prog_14_method_103_code
def yX12_steady : MethodName := ⟨RX12, "steady", "(I)I"⟩
abbrev cX12_mayWed : ByteArray := prog_14_method_104_code
def yX12_mayWed : MethodName := ⟨RX12, "mayWed", "(II)Z"⟩
abbrev cX12_weddings : ByteArray := prog_14_method_105_code
def yX12_weddings : MethodName := ⟨RX12, "weddings", "()I"⟩
abbrev cX12_told_ : ByteArray := prog_14_method_106_code
def yX12_told_ : MethodName := ⟨RX12, "told", "()I"⟩
abbrev cX12_with : ByteArray := prog_14_method_107_code
def yX12_with : MethodName := ⟨RX12, "with", "(I)I"⟩
abbrev cX12_anniversary : ByteArray := prog_14_method_108_code
def yX12_anniversary : MethodName := ⟨RX12, "anniversary", "(Z)I"⟩
abbrev cX12_dance : ByteArray := prog_14_method_109_code
def yX12_dance : MethodName := ⟨RX12, "dance", "()I"⟩
abbrev cX12_richest : ByteArray := prog_14_method_110_code
def yX12_richest : MethodName := ⟨RX12, "richest", "()I"⟩
abbrev cX12_ruinedOnes : ByteArray := prog_14_method_111_code
def yX12_ruinedOnes : MethodName := ⟨RX12, "ruinedOnes", "()I"⟩
abbrev cX12_trial : ByteArray := prog_14_method_112_code
def yX12_trial : MethodName := ⟨RX12, "trial", "(IZ)I"⟩
abbrev cX12_span : ByteArray := prog_14_method_113_code
def yX12_span : MethodName := ⟨RX12, "span", "(IZ)I"⟩
abbrev cX12_logged : ByteArray := prog_14_method_114_code
def yX12_logged : MethodName := ⟨RX12, "logged", "(II)I"⟩
abbrev cX12_led : ByteArray := prog_14_method_115_code
def yX12_led : MethodName := ⟨RX12, "led", "(IZ)I"⟩
abbrev cX12_log : ByteArray := prog_14_method_116_code
def yX12_log : MethodName := ⟨RX12, "log", "(II)I"⟩
abbrev cX12_seed : ByteArray := prog_14_method_117_code
def yX12_seed : MethodName := ⟨RX12, "seed", "(I)I"⟩
abbrev cX12_undo : ByteArray := prog_14_method_118_code
def yX12_undo : MethodName := ⟨RX12, "undo", "()Z"⟩
abbrev cX12_image : ByteArray := prog_14_method_119_code
def yX12_image : MethodName := ⟨RX12, "image", "()V"⟩
abbrev cX12_back : ByteArray := prog_14_method_120_code
def yX12_back : MethodName := ⟨RX12, "back", "()Z"⟩
abbrev cX12_wedOnes : ByteArray := prog_14_method_121_code
def yX12_wedOnes : MethodName := ⟨RX12, "wedOnes", "()I"⟩
abbrev cX12_count : ByteArray := prog_14_method_122_code
def yX12_count : MethodName := ⟨RX12, "count", "(I)I"⟩
def RJx145de : String := "java/io/Serializable"
def TJx145de : u_T := fun k => match k with
  | _ => ("", "", "", false)
def tyJx145de : Nat → FieldType := fun k => match k with
  | _ => .int
theorem nmJx145de : ∀ a, a < 0 → ∀ b, b < 0 → a ≠ b → (TJx145de a).2.1 ≠ (TJx145de b).2.1 := by decide +kernel
theorem tyJx145de_ok : ∀ k, k < 0 → parseFieldDescriptor (TJx145de k).2.2.1 = some (tyJx145de k) := by decide +kernel
def RJx9f9b0 : String := "java/lang/CharSequence"
def TJx9f9b0 : u_T := fun k => match k with
  | _ => ("", "", "", false)
def tyJx9f9b0 : Nat → FieldType := fun k => match k with
  | _ => .int
theorem nmJx9f9b0 : ∀ a, a < 0 → ∀ b, b < 0 → a ≠ b → (TJx9f9b0 a).2.1 ≠ (TJx9f9b0 b).2.1 := by decide +kernel
theorem tyJx9f9b0_ok : ∀ k, k < 0 → parseFieldDescriptor (TJx9f9b0 k).2.2.1 = some (tyJx9f9b0 k) := by decide +kernel
def RJxb160c : String := "java/lang/Comparable"
def TJxb160c : u_T := fun k => match k with
  | _ => ("", "", "", false)
def tyJxb160c : Nat → FieldType := fun k => match k with
  | _ => .int
theorem nmJxb160c : ∀ a, a < 0 → ∀ b, b < 0 → a ≠ b → (TJxb160c a).2.1 ≠ (TJxb160c b).2.1 := by decide +kernel
theorem tyJxb160c_ok : ∀ k, k < 0 → parseFieldDescriptor (TJxb160c k).2.2.1 = some (tyJxb160c k) := by decide +kernel
def RJx29ce0 : String := "java/lang/Enum"
def TJx29ce0 : u_T := fun k => match k with
  | _ => ("", "", "", false)
def tyJx29ce0 : Nat → FieldType := fun k => match k with
  | _ => .int
theorem nmJx29ce0 : ∀ a, a < 0 → ∀ b, b < 0 → a ≠ b → (TJx29ce0 a).2.1 ≠ (TJx29ce0 b).2.1 := by decide +kernel
theorem tyJx29ce0_ok : ∀ k, k < 0 → parseFieldDescriptor (TJx29ce0 k).2.2.1 = some (tyJx29ce0 k) := by decide +kernel
def RJ6 : String := "java/lang/Integer"
def TJ6 : u_T := fun k => match k with
  | _ => ("", "", "", false)
def tyJ6 : Nat → FieldType := fun k => match k with
  | _ => .int
theorem nmJ6 : ∀ a, a < 0 → ∀ b, b < 0 → a ≠ b → (TJ6 a).2.1 ≠ (TJ6 b).2.1 := by decide +kernel
theorem tyJ6_ok : ∀ k, k < 0 → parseFieldDescriptor (TJ6 k).2.2.1 = some (tyJ6 k) := by decide +kernel
abbrev cJ6_bitCount_0f7a4 : ByteArray := prog_23_method_49_code
def yJ6_bitCount_0f7a4 : MethodName := ⟨RJ6, "bitCount", "(I)I"⟩
def RJ9 : String := "java/lang/Math"
def TJ9 : u_T := fun k => match k with
  | _ => ("", "", "", false)
def tyJ9 : Nat → FieldType := fun k => match k with
  | _ => .int
theorem nmJ9 : ∀ a, a < 0 → ∀ b, b < 0 → a ≠ b → (TJ9 a).2.1 ≠ (TJ9 b).2.1 := by decide +kernel
theorem tyJ9_ok : ∀ k, k < 0 → parseFieldDescriptor (TJ9 k).2.2.1 = some (tyJ9 k) := by decide +kernel
abbrev cJ9_max_7cf53 : ByteArray := prog_24_method_65_code
def yJ9_max_7cf53 : MethodName := ⟨RJ9, "max", "(II)I"⟩
abbrev cJ9_min_7cf53 : ByteArray := prog_24_method_69_code
def yJ9_min_7cf53 : MethodName := ⟨RJ9, "min", "(II)I"⟩
def RJ0 : String := "java/lang/String"
def TJ0 : u_T := fun k => match k with
  | _ => ("", "", "", false)
def tyJ0 : Nat → FieldType := fun k => match k with
  | _ => .int
theorem nmJ0 : ∀ a, a < 0 → ∀ b, b < 0 → a ≠ b → (TJ0 a).2.1 ≠ (TJ0 b).2.1 := by decide +kernel
theorem tyJ0_ok : ∀ k, k < 0 → parseFieldDescriptor (TJ0 k).2.2.1 = some (tyJ0 k) := by decide +kernel
abbrev cJ0_length_8abf5 : ByteArray := prog_26_method_54_code
def yJ0_length_8abf5 : MethodName := ⟨RJ0, "length", "()I"⟩
abbrev cJ0_charAt_5068e : ByteArray := prog_26_method_56_code
def yJ0_charAt_5068e : MethodName := ⟨RJ0, "charAt", "(I)C"⟩
abbrev cJ0_coder_7d493 : ByteArray := prog_26_method_152_code
def yJ0_coder_7d493 : MethodName := ⟨RJ0, "coder", "()B"⟩
abbrev cJ0_isLatin1_aae02 : ByteArray := prog_26_method_154_code
def yJ0_isLatin1_aae02 : MethodName := ⟨RJ0, "isLatin1", "()Z"⟩
abbrev cJ0_checkIndex_df160 : ByteArray := prog_26_method_155_code
def yJ0_checkIndex_df160 : MethodName := ⟨RJ0, "checkIndex", "(II)V"⟩
def RJ1 : String := "java/lang/StringLatin1"
def TJ1 : u_T := fun k => match k with
  | _ => ("", "", "", false)
def tyJ1 : Nat → FieldType := fun k => match k with
  | _ => .int
theorem nmJ1 : ∀ a, a < 0 → ∀ b, b < 0 → a ≠ b → (TJ1 a).2.1 ≠ (TJ1 b).2.1 := by decide +kernel
theorem tyJ1_ok : ∀ k, k < 0 → parseFieldDescriptor (TJ1 k).2.2.1 = some (tyJ1 k) := by decide +kernel
abbrev cJ1_charAt_3b067 : ByteArray := prog_27_method_2_code
def yJ1_charAt_3b067 : MethodName := ⟨RJ1, "charAt", "([BI)C"⟩
def RJ2 : String := "java/lang/StringUTF16"
def TJ2 : u_T := fun k => match k with
  | _ => ("", "", "", false)
def tyJ2 : Nat → FieldType := fun k => match k with
  | _ => .int
theorem nmJ2 : ∀ a, a < 0 → ∀ b, b < 0 → a ≠ b → (TJ2 a).2.1 ≠ (TJ2 b).2.1 := by decide +kernel
theorem tyJ2_ok : ∀ k, k < 0 → parseFieldDescriptor (TJ2 k).2.2.1 = some (tyJ2 k) := by decide +kernel
abbrev cJ2_getChar_3b067 : ByteArray := prog_28_method_5_code
def yJ2_getChar_3b067 : MethodName := ⟨RJ2, "getChar", "([BI)C"⟩
abbrev cJ2_length_9d52b : ByteArray := prog_28_method_6_code
def yJ2_length_9d52b : MethodName := ⟨RJ2, "length", "([B)I"⟩
abbrev cJ2_charAt_3b067 : ByteArray := prog_28_method_83_code
def yJ2_charAt_3b067 : MethodName := ⟨RJ2, "charAt", "([BI)C"⟩
abbrev cJ2_checkIndex_2214a : ByteArray := prog_28_method_91_code
def yJ2_checkIndex_2214a : MethodName := ⟨RJ2, "checkIndex", "(I[B)V"⟩
def RJ10 : String := "java/lang/System"
def TJ10 : u_T := fun k => match k with
  | _ => ("", "", "", false)
def tyJ10 : Nat → FieldType := fun k => match k with
  | _ => .int
theorem nmJ10 : ∀ a, a < 0 → ∀ b, b < 0 → a ≠ b → (TJ10 a).2.1 ≠ (TJ10 b).2.1 := by decide +kernel
theorem tyJ10_ok : ∀ k, k < 0 → parseFieldDescriptor (TJ10 k).2.2.1 = some (tyJ10 k) := by decide +kernel
def RJxfd54e : String := "java/lang/constant/Constable"
def TJxfd54e : u_T := fun k => match k with
  | _ => ("", "", "", false)
def tyJxfd54e : Nat → FieldType := fun k => match k with
  | _ => .int
theorem nmJxfd54e : ∀ a, a < 0 → ∀ b, b < 0 → a ≠ b → (TJxfd54e a).2.1 ≠ (TJxfd54e b).2.1 := by decide +kernel
theorem tyJxfd54e_ok : ∀ k, k < 0 → parseFieldDescriptor (TJxfd54e k).2.2.1 = some (tyJxfd54e k) := by decide +kernel
def RJx3cf43 : String := "java/lang/constant/ConstantDesc"
def TJx3cf43 : u_T := fun k => match k with
  | _ => ("", "", "", false)
def tyJx3cf43 : Nat → FieldType := fun k => match k with
  | _ => .int
theorem nmJx3cf43 : ∀ a, a < 0 → ∀ b, b < 0 → a ≠ b → (TJx3cf43 a).2.1 ≠ (TJx3cf43 b).2.1 := by decide +kernel
theorem tyJx3cf43_ok : ∀ k, k < 0 → parseFieldDescriptor (TJx3cf43 k).2.2.1 = some (tyJx3cf43 k) := by decide +kernel
def RJ3 : String := "jdk/internal/util/Preconditions"
def TJ3 : u_T := fun k => match k with
  | _ => ("", "", "", false)
def tyJ3 : Nat → FieldType := fun k => match k with
  | _ => .int
theorem nmJ3 : ∀ a, a < 0 → ∀ b, b < 0 → a ≠ b → (TJ3 a).2.1 ≠ (TJ3 b).2.1 := by decide +kernel
theorem tyJ3_ok : ∀ k, k < 0 → parseFieldDescriptor (TJ3 k).2.2.1 = some (tyJ3 k) := by decide +kernel
abbrev cJ3_checkIndex_8e157 : ByteArray := prog_35_method_11_code
def yJ3_checkIndex_8e157 : MethodName := ⟨RJ3, "checkIndex", "(IILjava/util/function/BiFunction;)I"⟩
def RL : String := "RivalWedsLaw"
abbrev cL_town : ByteArray := method_3_code
def yL_town : MethodName := ⟨RL, "town", "(LRivalWeds;[J)I"⟩
abbrev cL_law : ByteArray := method_4_code
def yL_law : MethodName := ⟨RL, "law", "(LRivalWeds;[J)I"⟩
abbrev cL_person : ByteArray := method_5_code
def yL_person : MethodName := ⟨RL, "person", "(LRivalWeds;II[J)I"⟩
abbrev cL_liking : ByteArray := method_6_code
def yL_liking : MethodName := ⟨RL, "liking", "(LRivalWeds;II[J)I"⟩
abbrev cL_match : ByteArray := method_7_code
def yL_match : MethodName := ⟨RL, "match", "(LRivalWeds;II[J)I"⟩
abbrev cL_ask : ByteArray := method_8_code
def yL_ask : MethodName := ⟨RL, "ask", "(LRivalWeds;II[J)I"⟩
abbrev cL_wed : ByteArray := method_9_code
def yL_wed : MethodName := ⟨RL, "wed", "(LRivalWeds;II[J)I"⟩
abbrev cL_gift : ByteArray := method_10_code
def yL_gift : MethodName := ⟨RL, "gift", "(LRivalWeds;II[J)I"⟩
abbrev cL_meddle : ByteArray := method_11_code
def yL_meddle : MethodName := ⟨RL, "meddle", "(LRivalWeds;II[J)I"⟩
abbrev cL_reinsure : ByteArray := method_12_code
def yL_reinsure : MethodName := ⟨RL, "reinsure", "(LRivalWeds;II[J)I"⟩
abbrev cL_part : ByteArray := method_13_code
def yL_part : MethodName := ⟨RL, "part", "(LRivalWeds;I[J)I"⟩
abbrev cL_months : ByteArray := method_14_code
def yL_months : MethodName := ⟨RL, "months", "(LRivalWeds;I[J)I"⟩
abbrev cL_would : ByteArray := method_15_code
def yL_would : MethodName := ⟨RL, "would", "(LRivalWeds;II[J)I"⟩
abbrev cL_best : ByteArray := method_16_code
def yL_best : MethodName := ⟨RL, "best", "(LRivalWeds;I[J)I"⟩
abbrev cL_next : ByteArray := method_17_code
def yL_next : MethodName := ⟨RL, "next", "(LRivalWeds;II[J)I"⟩
abbrev cL_ahead : ByteArray := method_18_code
def yL_ahead : MethodName := ⟨RL, "ahead", "(LRivalWeds;III[J)I"⟩
abbrev cL_first : ByteArray := method_19_code
def yL_first : MethodName := ⟨RL, "first", "(LRivalWeds;II[J)I"⟩
abbrev cL_odds : ByteArray := method_20_code
def yL_odds : MethodName := ⟨RL, "odds", "(LRivalWeds;I[J)I"⟩
abbrev cL_loses : ByteArray := method_21_code
def yL_loses : MethodName := ⟨RL, "loses", "(LRivalWeds;I[J)I"⟩
abbrev cL_holds : ByteArray := method_22_code
def yL_holds : MethodName := ⟨RL, "holds", "(LRivalWeds;I[J)I"⟩
abbrev cL_ring : ByteArray := method_23_code
def yL_ring : MethodName := ⟨RL, "ring", "(LRivalWeds;I[J)I"⟩
abbrev cL_leans : ByteArray := method_24_code
def yL_leans : MethodName := ⟨RL, "leans", "(LRivalWeds;I[J)I"⟩
abbrev cL_gifts : ByteArray := method_25_code
def yL_gifts : MethodName := ⟨RL, "gifts", "(LRivalWeds;III[J)I"⟩
abbrev cL_rather : ByteArray := method_26_code
def yL_rather : MethodName := ⟨RL, "rather", "(LRivalWeds;I[J)I"⟩
abbrev cL_steady : ByteArray := method_27_code
def yL_steady : MethodName := ⟨RL, "steady", "(LRivalWeds;I[J)I"⟩
abbrev cL_anniversary : ByteArray := method_28_code
def yL_anniversary : MethodName := ⟨RL, "anniversary", "(LRivalWeds;Z[J)I"⟩
abbrev cL_dance : ByteArray := method_29_code
def yL_dance : MethodName := ⟨RL, "dance", "(LRivalWeds;[J)I"⟩
abbrev cL_trial : ByteArray := method_30_code
def yL_trial : MethodName := ⟨RL, "trial", "(LRivalWeds;IZ[J)I"⟩
abbrev cL_span : ByteArray := method_31_code
def yL_span : MethodName := ⟨RL, "span", "(LRivalWeds;IZ[J)I"⟩
abbrev cL_led : ByteArray := method_32_code
def yL_led : MethodName := ⟨RL, "led", "(LRivalWeds;IZ[J)I"⟩
abbrev cL_log : ByteArray := method_33_code
def yL_log : MethodName := ⟨RL, "log", "(LRivalWeds;II[J)I"⟩
abbrev cL_law_ : ByteArray := code
def yL_law_ : MethodName := ⟨RL, "law", "([I)Z"⟩
