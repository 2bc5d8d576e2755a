section
-- ===== PART A: goes FIRST, ahead of the names: the tables' words, and 'selects' of the private methods out of them =====
/-- a private method of a class that the tables say can be made, by its rows of tables_1 -/
def lw_okq (q : MethodName × Nat) : Prop := (q.1.cls ≠ "java/lang/invoke/MethodHandle" ∧ q.1.cls ≠ "java/lang/invoke/VarHandle") ∧ Cond.instantiable q.1.cls q.2 ∈ tables_1 ∧ Cond.privateMethod q.1 ∈ tables_1 ∧ Cond.instanceMethod q.1 ∈ tables_1
theorem lw_p0 : lw_okq (⟨"PittanceHouse", "onTrial", "()LPittanceHouse$Deeds;"⟩, 12) := ⟨⟨by decide +kernel, by decide +kernel⟩, List.mem_of_getElem? (i := 16) (by decide +kernel), List.mem_of_getElem? (i := 174) (by decide +kernel), List.mem_of_getElem? (i := 175) (by decide +kernel)⟩
theorem lw_p1 : lw_okq (⟨"PittanceHouse", "settle", "(I)I"⟩, 12) := ⟨⟨by decide +kernel, by decide +kernel⟩, List.mem_of_getElem? (i := 16) (by decide +kernel), List.mem_of_getElem? (i := 206) (by decide +kernel), List.mem_of_getElem? (i := 207) (by decide +kernel)⟩
theorem lw_p2 : lw_okq (⟨"PittanceHouse$Deeds", "dropVoicesFor", "(I)V"⟩, 4) := ⟨⟨by decide +kernel, by decide +kernel⟩, List.mem_of_getElem? (i := 43) (by decide +kernel), List.mem_of_getElem? (i := 254) (by decide +kernel), List.mem_of_getElem? (i := 255) (by decide +kernel)⟩
theorem lw_p3 : lw_okq (⟨"PittanceHouse$Ranks", "withPlace", "(I)I"⟩, 1) := ⟨⟨by decide +kernel, by decide +kernel⟩, List.mem_of_getElem? (i := 51) (by decide +kernel), List.mem_of_getElem? (i := 292) (by decide +kernel), List.mem_of_getElem? (i := 293) (by decide +kernel)⟩
theorem lw_p4 : lw_okq (⟨"PittanceHouse$Deeds", "moveOut", "(II)V"⟩, 4) := ⟨⟨by decide +kernel, by decide +kernel⟩, List.mem_of_getElem? (i := 43) (by decide +kernel), List.mem_of_getElem? (i := 304) (by decide +kernel), List.mem_of_getElem? (i := 305) (by decide +kernel)⟩
theorem lw_p5 : lw_okq (⟨"PittanceHouse$Deeds", "payFeast", "(II)V"⟩, 4) := ⟨⟨by decide +kernel, by decide +kernel⟩, List.mem_of_getElem? (i := 43) (by decide +kernel), List.mem_of_getElem? (i := 376) (by decide +kernel), List.mem_of_getElem? (i := 377) (by decide +kernel)⟩
theorem lw_p6 : lw_okq (⟨"PittanceHouse$Deeds", "shortenBans", "()V"⟩, 4) := ⟨⟨by decide +kernel, by decide +kernel⟩, List.mem_of_getElem? (i := 43) (by decide +kernel), List.mem_of_getElem? (i := 382) (by decide +kernel), List.mem_of_getElem? (i := 383) (by decide +kernel)⟩
theorem lw_p7 : lw_okq (⟨"PittanceHouse$Deeds", "beginYear", "()V"⟩, 4) := ⟨⟨by decide +kernel, by decide +kernel⟩, List.mem_of_getElem? (i := 43) (by decide +kernel), List.mem_of_getElem? (i := 386) (by decide +kernel), List.mem_of_getElem? (i := 387) (by decide +kernel)⟩
theorem lw_p8 : lw_okq (⟨"PittanceHouse$Deeds", "buyGowns", "()V"⟩, 4) := ⟨⟨by decide +kernel, by decide +kernel⟩, List.mem_of_getElem? (i := 43) (by decide +kernel), List.mem_of_getElem? (i := 390) (by decide +kernel), List.mem_of_getElem? (i := 391) (by decide +kernel)⟩
theorem lw_p9 : lw_okq (⟨"PittanceHouse", "breachesOf", "(I)I"⟩, 12) := ⟨⟨by decide +kernel, by decide +kernel⟩, List.mem_of_getElem? (i := 16) (by decide +kernel), List.mem_of_getElem? (i := 405) (by decide +kernel), List.mem_of_getElem? (i := 406) (by decide +kernel)⟩
theorem lw_p10 : lw_okq (⟨"PittanceHouse", "placeInLine", "(I)I"⟩, 12) := ⟨⟨by decide +kernel, by decide +kernel⟩, List.mem_of_getElem? (i := 16) (by decide +kernel), List.mem_of_getElem? (i := 409) (by decide +kernel), List.mem_of_getElem? (i := 410) (by decide +kernel)⟩
theorem lw_p11 : lw_okq (⟨"PittanceHouse", "tallyVoices", "()V"⟩, 12) := ⟨⟨by decide +kernel, by decide +kernel⟩, List.mem_of_getElem? (i := 16) (by decide +kernel), List.mem_of_getElem? (i := 442) (by decide +kernel), List.mem_of_getElem? (i := 443) (by decide +kernel)⟩
theorem lw_p12 : lw_okq (⟨"PittanceHouse$Orders", "readOrder", "(LPittanceHouse$Signs;)Z"⟩, 6) := ⟨⟨by decide +kernel, by decide +kernel⟩, List.mem_of_getElem? (i := 92) (by decide +kernel), List.mem_of_getElem? (i := 498) (by decide +kernel), List.mem_of_getElem? (i := 499) (by decide +kernel)⟩
theorem lw_p13 : lw_okq (⟨"PittanceHouse$Orders", "readWord", "(LPittanceHouse$Signs;Ljava/lang/String;)Z"⟩, 6) := ⟨⟨by decide +kernel, by decide +kernel⟩, List.mem_of_getElem? (i := 92) (by decide +kernel), List.mem_of_getElem? (i := 520) (by decide +kernel), List.mem_of_getElem? (i := 521) (by decide +kernel)⟩
theorem lw_p14 : lw_okq (⟨"PittanceHouse$Orders", "readSign", "(LPittanceHouse$Signs;I)Z"⟩, 6) := ⟨⟨by decide +kernel, by decide +kernel⟩, List.mem_of_getElem? (i := 92) (by decide +kernel), List.mem_of_getElem? (i := 572) (by decide +kernel), List.mem_of_getElem? (i := 573) (by decide +kernel)⟩
theorem lw_p15 : lw_okq (⟨"PittanceHouse$Orders", "readNumber", "(LPittanceHouse$Signs;I)Z"⟩, 6) := ⟨⟨by decide +kernel, by decide +kernel⟩, List.mem_of_getElem? (i := 92) (by decide +kernel), List.mem_of_getElem? (i := 579) (by decide +kernel), List.mem_of_getElem? (i := 580) (by decide +kernel)⟩
def lw_privs_1 : List (MethodName × Nat) := [(⟨"PittanceHouse", "onTrial", "()LPittanceHouse$Deeds;"⟩, 12), (⟨"PittanceHouse", "settle", "(I)I"⟩, 12), (⟨"PittanceHouse$Deeds", "dropVoicesFor", "(I)V"⟩, 4), (⟨"PittanceHouse$Ranks", "withPlace", "(I)I"⟩, 1), (⟨"PittanceHouse$Deeds", "moveOut", "(II)V"⟩, 4), (⟨"PittanceHouse$Deeds", "payFeast", "(II)V"⟩, 4), (⟨"PittanceHouse$Deeds", "shortenBans", "()V"⟩, 4), (⟨"PittanceHouse$Deeds", "beginYear", "()V"⟩, 4), (⟨"PittanceHouse$Deeds", "buyGowns", "()V"⟩, 4), (⟨"PittanceHouse", "breachesOf", "(I)I"⟩, 12), (⟨"PittanceHouse", "placeInLine", "(I)I"⟩, 12), (⟨"PittanceHouse", "tallyVoices", "()V"⟩, 12), (⟨"PittanceHouse$Orders", "readOrder", "(LPittanceHouse$Signs;)Z"⟩, 6), (⟨"PittanceHouse$Orders", "readWord", "(LPittanceHouse$Signs;Ljava/lang/String;)Z"⟩, 6), (⟨"PittanceHouse$Orders", "readSign", "(LPittanceHouse$Signs;I)Z"⟩, 6), (⟨"PittanceHouse$Orders", "readNumber", "(LPittanceHouse$Signs;I)Z"⟩, 6)]
theorem lw_r1 : ∀ q ∈ lw_privs_1, lw_okq q := List.forall_mem_cons.mpr ⟨lw_p0, List.forall_mem_cons.mpr ⟨lw_p1, List.forall_mem_cons.mpr ⟨lw_p2, List.forall_mem_cons.mpr ⟨lw_p3, List.forall_mem_cons.mpr ⟨lw_p4, List.forall_mem_cons.mpr ⟨lw_p5, List.forall_mem_cons.mpr ⟨lw_p6, List.forall_mem_cons.mpr ⟨lw_p7, List.forall_mem_cons.mpr ⟨lw_p8, List.forall_mem_cons.mpr ⟨lw_p9, List.forall_mem_cons.mpr ⟨lw_p10, List.forall_mem_cons.mpr ⟨lw_p11, List.forall_mem_cons.mpr ⟨lw_p12, List.forall_mem_cons.mpr ⟨lw_p13, List.forall_mem_cons.mpr ⟨lw_p14, List.forall_mem_cons.mpr ⟨lw_p15, fun _ h => absurd h List.not_mem_nil⟩⟩⟩⟩⟩⟩⟩⟩⟩⟩⟩⟩⟩⟩⟩⟩
theorem lw_p16 : lw_okq (⟨"PittanceHouse$Orders", "keep", "(III)V"⟩, 6) := ⟨⟨by decide +kernel, by decide +kernel⟩, List.mem_of_getElem? (i := 92) (by decide +kernel), List.mem_of_getElem? (i := 586) (by decide +kernel), List.mem_of_getElem? (i := 587) (by decide +kernel)⟩
theorem lw_p17 : lw_okq (⟨"PittanceHouse", "addCell", "(I)V"⟩, 12) := ⟨⟨by decide +kernel, by decide +kernel⟩, List.mem_of_getElem? (i := 16) (by decide +kernel), List.mem_of_getElem? (i := 629) (by decide +kernel), List.mem_of_getElem? (i := 630) (by decide +kernel)⟩
theorem lw_p18 : lw_okq (⟨"PittanceHouse", "addWaiting", "(I)V"⟩, 12) := ⟨⟨by decide +kernel, by decide +kernel⟩, List.mem_of_getElem? (i := 16) (by decide +kernel), List.mem_of_getElem? (i := 642) (by decide +kernel), List.mem_of_getElem? (i := 643) (by decide +kernel)⟩
theorem lw_p19 : lw_okq (⟨"PittanceHouse", "brethrenUnderBan", "()I"⟩, 12) := ⟨⟨by decide +kernel, by decide +kernel⟩, List.mem_of_getElem? (i := 16) (by decide +kernel), List.mem_of_getElem? (i := 660) (by decide +kernel), List.mem_of_getElem? (i := 661) (by decide +kernel)⟩
theorem lw_p20 : lw_okq (⟨"PittanceHouse", "cellsWith", "(I)I"⟩, 12) := ⟨⟨by decide +kernel, by decide +kernel⟩, List.mem_of_getElem? (i := 16) (by decide +kernel), List.mem_of_getElem? (i := 673) (by decide +kernel), List.mem_of_getElem? (i := 674) (by decide +kernel)⟩
theorem lw_p21 : lw_okq (⟨"PittanceHouseModel", "isNot", "(II)I"⟩, 20) := ⟨⟨by decide +kernel, by decide +kernel⟩, List.mem_of_getElem? (i := 710) (by decide +kernel), List.mem_of_getElem? (i := 789) (by decide +kernel), List.mem_of_getElem? (i := 790) (by decide +kernel)⟩
theorem lw_p22 : lw_okq (⟨"PittanceHouseModel", "refuses", "(I)I"⟩, 20) := ⟨⟨by decide +kernel, by decide +kernel⟩, List.mem_of_getElem? (i := 710) (by decide +kernel), List.mem_of_getElem? (i := 793) (by decide +kernel), List.mem_of_getElem? (i := 794) (by decide +kernel)⟩
theorem lw_p23 : lw_okq (⟨"PittanceHouseModel", "remembers", "()V"⟩, 20) := ⟨⟨by decide +kernel, by decide +kernel⟩, List.mem_of_getElem? (i := 710) (by decide +kernel), List.mem_of_getElem? (i := 797) (by decide +kernel), List.mem_of_getElem? (i := 798) (by decide +kernel)⟩
theorem lw_p24 : lw_okq (⟨"PittanceHouseModel", "thinks", "()V"⟩, 20) := ⟨⟨by decide +kernel, by decide +kernel⟩, List.mem_of_getElem? (i := 710) (by decide +kernel), List.mem_of_getElem? (i := 801) (by decide +kernel), List.mem_of_getElem? (i := 802) (by decide +kernel)⟩
theorem lw_p25 : lw_okq (⟨"PittanceHouseModel", "keepsMind", "()V"⟩, 20) := ⟨⟨by decide +kernel, by decide +kernel⟩, List.mem_of_getElem? (i := 710) (by decide +kernel), List.mem_of_getElem? (i := 805) (by decide +kernel), List.mem_of_getElem? (i := 806) (by decide +kernel)⟩
theorem lw_p26 : lw_okq (⟨"PittanceHouseModel", "sets", "(III)V"⟩, 20) := ⟨⟨by decide +kernel, by decide +kernel⟩, List.mem_of_getElem? (i := 710) (by decide +kernel), List.mem_of_getElem? (i := 809) (by decide +kernel), List.mem_of_getElem? (i := 810) (by decide +kernel)⟩
theorem lw_p27 : lw_okq (⟨"PittanceHouseModel", "stamps", "(I)V"⟩, 20) := ⟨⟨by decide +kernel, by decide +kernel⟩, List.mem_of_getElem? (i := 710) (by decide +kernel), List.mem_of_getElem? (i := 813) (by decide +kernel), List.mem_of_getElem? (i := 814) (by decide +kernel)⟩
theorem lw_p28 : lw_okq (⟨"PittanceHouseModel", "isBrother", "(I)Z"⟩, 20) := ⟨⟨by decide +kernel, by decide +kernel⟩, List.mem_of_getElem? (i := 710) (by decide +kernel), List.mem_of_getElem? (i := 821) (by decide +kernel), List.mem_of_getElem? (i := 822) (by decide +kernel)⟩
theorem lw_p29 : lw_okq (⟨"PittanceHouseModel", "isSo", "(II)Z"⟩, 20) := ⟨⟨by decide +kernel, by decide +kernel⟩, List.mem_of_getElem? (i := 710) (by decide +kernel), List.mem_of_getElem? (i := 825) (by decide +kernel), List.mem_of_getElem? (i := 826) (by decide +kernel)⟩
theorem lw_p30 : lw_okq (⟨"PittanceHouseModel", "of", "(II)I"⟩, 20) := ⟨⟨by decide +kernel, by decide +kernel⟩, List.mem_of_getElem? (i := 710) (by decide +kernel), List.mem_of_getElem? (i := 829) (by decide +kernel), List.mem_of_getElem? (i := 830) (by decide +kernel)⟩
theorem lw_p31 : lw_okq (⟨"PittanceHouseModel", "becomes", "(II)V"⟩, 20) := ⟨⟨by decide +kernel, by decide +kernel⟩, List.mem_of_getElem? (i := 710) (by decide +kernel), List.mem_of_getElem? (i := 833) (by decide +kernel), List.mem_of_getElem? (i := 834) (by decide +kernel)⟩
def lw_privs_2 : List (MethodName × Nat) := [(⟨"PittanceHouse$Orders", "keep", "(III)V"⟩, 6), (⟨"PittanceHouse", "addCell", "(I)V"⟩, 12), (⟨"PittanceHouse", "addWaiting", "(I)V"⟩, 12), (⟨"PittanceHouse", "brethrenUnderBan", "()I"⟩, 12), (⟨"PittanceHouse", "cellsWith", "(I)I"⟩, 12), (⟨"PittanceHouseModel", "isNot", "(II)I"⟩, 20), (⟨"PittanceHouseModel", "refuses", "(I)I"⟩, 20), (⟨"PittanceHouseModel", "remembers", "()V"⟩, 20), (⟨"PittanceHouseModel", "thinks", "()V"⟩, 20), (⟨"PittanceHouseModel", "keepsMind", "()V"⟩, 20), (⟨"PittanceHouseModel", "sets", "(III)V"⟩, 20), (⟨"PittanceHouseModel", "stamps", "(I)V"⟩, 20), (⟨"PittanceHouseModel", "isBrother", "(I)Z"⟩, 20), (⟨"PittanceHouseModel", "isSo", "(II)Z"⟩, 20), (⟨"PittanceHouseModel", "of", "(II)I"⟩, 20), (⟨"PittanceHouseModel", "becomes", "(II)V"⟩, 20)]
theorem lw_r2 : ∀ q ∈ lw_privs_2, lw_okq q := List.forall_mem_cons.mpr ⟨lw_p16, List.forall_mem_cons.mpr ⟨lw_p17, List.forall_mem_cons.mpr ⟨lw_p18, List.forall_mem_cons.mpr ⟨lw_p19, List.forall_mem_cons.mpr ⟨lw_p20, List.forall_mem_cons.mpr ⟨lw_p21, List.forall_mem_cons.mpr ⟨lw_p22, List.forall_mem_cons.mpr ⟨lw_p23, List.forall_mem_cons.mpr ⟨lw_p24, List.forall_mem_cons.mpr ⟨lw_p25, List.forall_mem_cons.mpr ⟨lw_p26, List.forall_mem_cons.mpr ⟨lw_p27, List.forall_mem_cons.mpr ⟨lw_p28, List.forall_mem_cons.mpr ⟨lw_p29, List.forall_mem_cons.mpr ⟨lw_p30, List.forall_mem_cons.mpr ⟨lw_p31, fun _ h => absurd h List.not_mem_nil⟩⟩⟩⟩⟩⟩⟩⟩⟩⟩⟩⟩⟩⟩⟩⟩
theorem lw_p32 : lw_okq (⟨"PittanceHouseModel", "voicesGo", "(I)V"⟩, 20) := ⟨⟨by decide +kernel, by decide +kernel⟩, List.mem_of_getElem? (i := 710) (by decide +kernel), List.mem_of_getElem? (i := 837) (by decide +kernel), List.mem_of_getElem? (i := 838) (by decide +kernel)⟩
theorem lw_p33 : lw_okq (⟨"PittanceHouseModel", "brethrenThat", "(I)I"⟩, 20) := ⟨⟨by decide +kernel, by decide +kernel⟩, List.mem_of_getElem? (i := 710) (by decide +kernel), List.mem_of_getElem? (i := 841) (by decide +kernel), List.mem_of_getElem? (i := 842) (by decide +kernel)⟩
theorem lw_p34 : lw_okq (⟨"PittanceHouseModel", "notVoice", "(II)I"⟩, 20) := ⟨⟨by decide +kernel, by decide +kernel⟩, List.mem_of_getElem? (i := 710) (by decide +kernel), List.mem_of_getElem? (i := 849) (by decide +kernel), List.mem_of_getElem? (i := 850) (by decide +kernel)⟩
theorem lw_p35 : lw_okq (⟨"PittanceHouseModel", "gives", "(II)I"⟩, 20) := ⟨⟨by decide +kernel, by decide +kernel⟩, List.mem_of_getElem? (i := 710) (by decide +kernel), List.mem_of_getElem? (i := 853) (by decide +kernel), List.mem_of_getElem? (i := 854) (by decide +kernel)⟩
theorem lw_p36 : lw_okq (⟨"PittanceHouseModel", "voicesFor", "(I)I"⟩, 20) := ⟨⟨by decide +kernel, by decide +kernel⟩, List.mem_of_getElem? (i := 710) (by decide +kernel), List.mem_of_getElem? (i := 857) (by decide +kernel), List.mem_of_getElem? (i := 858) (by decide +kernel)⟩
theorem lw_p37 : lw_okq (⟨"PittanceHouseModel", "countsFor", "(I)I"⟩, 20) := ⟨⟨by decide +kernel, by decide +kernel⟩, List.mem_of_getElem? (i := 710) (by decide +kernel), List.mem_of_getElem? (i := 861) (by decide +kernel), List.mem_of_getElem? (i := 862) (by decide +kernel)⟩
theorem lw_p38 : lw_okq (⟨"PittanceHouseModel", "notChoose", "(I)I"⟩, 20) := ⟨⟨by decide +kernel, by decide +kernel⟩, List.mem_of_getElem? (i := 710) (by decide +kernel), List.mem_of_getElem? (i := 869) (by decide +kernel), List.mem_of_getElem? (i := 870) (by decide +kernel)⟩
theorem lw_p39 : lw_okq (⟨"PittanceHouseModel", "brotherIn", "(I)I"⟩, 20) := ⟨⟨by decide +kernel, by decide +kernel⟩, List.mem_of_getElem? (i := 710) (by decide +kernel), List.mem_of_getElem? (i := 876) (by decide +kernel), List.mem_of_getElem? (i := 877) (by decide +kernel)⟩
theorem lw_p40 : lw_okq (⟨"PittanceHouseModel", "chooses", "(I)I"⟩, 20) := ⟨⟨by decide +kernel, by decide +kernel⟩, List.mem_of_getElem? (i := 710) (by decide +kernel), List.mem_of_getElem? (i := 880) (by decide +kernel), List.mem_of_getElem? (i := 881) (by decide +kernel)⟩
theorem lw_p41 : lw_okq (⟨"PittanceHouseModel", "rankedAt", "(I)I"⟩, 20) := ⟨⟨by decide +kernel, by decide +kernel⟩, List.mem_of_getElem? (i := 710) (by decide +kernel), List.mem_of_getElem? (i := 884) (by decide +kernel), List.mem_of_getElem? (i := 885) (by decide +kernel)⟩
theorem lw_p42 : lw_okq (⟨"PittanceHouseModel", "isChosenAhead", "(II)Z"⟩, 20) := ⟨⟨by decide +kernel, by decide +kernel⟩, List.mem_of_getElem? (i := 710) (by decide +kernel), List.mem_of_getElem? (i := 888) (by decide +kernel), List.mem_of_getElem? (i := 889) (by decide +kernel)⟩
theorem lw_p43 : lw_okq (⟨"PittanceHouseModel", "notLeave", "(I)I"⟩, 20) := ⟨⟨by decide +kernel, by decide +kernel⟩, List.mem_of_getElem? (i := 710) (by decide +kernel), List.mem_of_getElem? (i := 896) (by decide +kernel), List.mem_of_getElem? (i := 897) (by decide +kernel)⟩
theorem lw_p44 : lw_okq (⟨"PittanceHouseModel", "leaves", "(I)I"⟩, 20) := ⟨⟨by decide +kernel, by decide +kernel⟩, List.mem_of_getElem? (i := 710) (by decide +kernel), List.mem_of_getElem? (i := 900) (by decide +kernel), List.mem_of_getElem? (i := 901) (by decide +kernel)⟩
theorem lw_p45 : lw_okq (⟨"PittanceHouseModel", "notFeast", "(II)I"⟩, 20) := ⟨⟨by decide +kernel, by decide +kernel⟩, List.mem_of_getElem? (i := 710) (by decide +kernel), List.mem_of_getElem? (i := 908) (by decide +kernel), List.mem_of_getElem? (i := 909) (by decide +kernel)⟩
theorem lw_p46 : lw_okq (⟨"PittanceHouseModel", "tells", "(II)I"⟩, 20) := ⟨⟨by decide +kernel, by decide +kernel⟩, List.mem_of_getElem? (i := 710) (by decide +kernel), List.mem_of_getElem? (i := 912) (by decide +kernel), List.mem_of_getElem? (i := 913) (by decide +kernel)⟩
theorem lw_p47 : lw_okq (⟨"PittanceHouseModel", "notBreach", "(II)I"⟩, 20) := ⟨⟨by decide +kernel, by decide +kernel⟩, List.mem_of_getElem? (i := 710) (by decide +kernel), List.mem_of_getElem? (i := 920) (by decide +kernel), List.mem_of_getElem? (i := 921) (by decide +kernel)⟩
def lw_privs_3 : List (MethodName × Nat) := [(⟨"PittanceHouseModel", "voicesGo", "(I)V"⟩, 20), (⟨"PittanceHouseModel", "brethrenThat", "(I)I"⟩, 20), (⟨"PittanceHouseModel", "notVoice", "(II)I"⟩, 20), (⟨"PittanceHouseModel", "gives", "(II)I"⟩, 20), (⟨"PittanceHouseModel", "voicesFor", "(I)I"⟩, 20), (⟨"PittanceHouseModel", "countsFor", "(I)I"⟩, 20), (⟨"PittanceHouseModel", "notChoose", "(I)I"⟩, 20), (⟨"PittanceHouseModel", "brotherIn", "(I)I"⟩, 20), (⟨"PittanceHouseModel", "chooses", "(I)I"⟩, 20), (⟨"PittanceHouseModel", "rankedAt", "(I)I"⟩, 20), (⟨"PittanceHouseModel", "isChosenAhead", "(II)Z"⟩, 20), (⟨"PittanceHouseModel", "notLeave", "(I)I"⟩, 20), (⟨"PittanceHouseModel", "leaves", "(I)I"⟩, 20), (⟨"PittanceHouseModel", "notFeast", "(II)I"⟩, 20), (⟨"PittanceHouseModel", "tells", "(II)I"⟩, 20), (⟨"PittanceHouseModel", "notBreach", "(II)I"⟩, 20)]
theorem lw_r3 : ∀ q ∈ lw_privs_3, lw_okq q := List.forall_mem_cons.mpr ⟨lw_p32, List.forall_mem_cons.mpr ⟨lw_p33, List.forall_mem_cons.mpr ⟨lw_p34, List.forall_mem_cons.mpr ⟨lw_p35, List.forall_mem_cons.mpr ⟨lw_p36, List.forall_mem_cons.mpr ⟨lw_p37, List.forall_mem_cons.mpr ⟨lw_p38, List.forall_mem_cons.mpr ⟨lw_p39, List.forall_mem_cons.mpr ⟨lw_p40, List.forall_mem_cons.mpr ⟨lw_p41, List.forall_mem_cons.mpr ⟨lw_p42, List.forall_mem_cons.mpr ⟨lw_p43, List.forall_mem_cons.mpr ⟨lw_p44, List.forall_mem_cons.mpr ⟨lw_p45, List.forall_mem_cons.mpr ⟨lw_p46, List.forall_mem_cons.mpr ⟨lw_p47, fun _ h => absurd h List.not_mem_nil⟩⟩⟩⟩⟩⟩⟩⟩⟩⟩⟩⟩⟩⟩⟩⟩
theorem lw_p48 : lw_okq (⟨"PittanceHouseModel", "breaks", "(II)I"⟩, 20) := ⟨⟨by decide +kernel, by decide +kernel⟩, List.mem_of_getElem? (i := 710) (by decide +kernel), List.mem_of_getElem? (i := 924) (by decide +kernel), List.mem_of_getElem? (i := 925) (by decide +kernel)⟩
theorem lw_p49 : lw_okq (⟨"PittanceHouseModel", "notPardon", "(I)I"⟩, 20) := ⟨⟨by decide +kernel, by decide +kernel⟩, List.mem_of_getElem? (i := 710) (by decide +kernel), List.mem_of_getElem? (i := 932) (by decide +kernel), List.mem_of_getElem? (i := 933) (by decide +kernel)⟩
theorem lw_p50 : lw_okq (⟨"PittanceHouseModel", "pardons", "(I)I"⟩, 20) := ⟨⟨by decide +kernel, by decide +kernel⟩, List.mem_of_getElem? (i := 710) (by decide +kernel), List.mem_of_getElem? (i := 936) (by decide +kernel), List.mem_of_getElem? (i := 937) (by decide +kernel)⟩
theorem lw_p51 : lw_okq (⟨"PittanceHouseModel", "puts", "(I)I"⟩, 20) := ⟨⟨by decide +kernel, by decide +kernel⟩, List.mem_of_getElem? (i := 710) (by decide +kernel), List.mem_of_getElem? (i := 944) (by decide +kernel), List.mem_of_getElem? (i := 945) (by decide +kernel)⟩
theorem lw_p52 : lw_okq (⟨"PittanceHouseModel", "comesIn", "(I)V"⟩, 20) := ⟨⟨by decide +kernel, by decide +kernel⟩, List.mem_of_getElem? (i := 710) (by decide +kernel), List.mem_of_getElem? (i := 948) (by decide +kernel), List.mem_of_getElem? (i := 949) (by decide +kernel)⟩
theorem lw_p53 : lw_okq (⟨"PittanceHouseModel", "weeksGo", "(I)I"⟩, 20) := ⟨⟨by decide +kernel, by decide +kernel⟩, List.mem_of_getElem? (i := 710) (by decide +kernel), List.mem_of_getElem? (i := 959) (by decide +kernel), List.mem_of_getElem? (i := 960) (by decide +kernel)⟩
theorem lw_p54 : lw_okq (⟨"PittanceHouseModel", "weekGoes", "()I"⟩, 20) := ⟨⟨by decide +kernel, by decide +kernel⟩, List.mem_of_getElem? (i := 710) (by decide +kernel), List.mem_of_getElem? (i := 963) (by decide +kernel), List.mem_of_getElem? (i := 964) (by decide +kernel)⟩
theorem lw_p55 : lw_okq (⟨"PittanceHouseModel", "feastComes", "()I"⟩, 20) := ⟨⟨by decide +kernel, by decide +kernel⟩, List.mem_of_getElem? (i := 710) (by decide +kernel), List.mem_of_getElem? (i := 967) (by decide +kernel), List.mem_of_getElem? (i := 968) (by decide +kernel)⟩
theorem lw_p56 : lw_okq (⟨"PittanceHouseModel", "entitledMany", "()I"⟩, 20) := ⟨⟨by decide +kernel, by decide +kernel⟩, List.mem_of_getElem? (i := 710) (by decide +kernel), List.mem_of_getElem? (i := 971) (by decide +kernel), List.mem_of_getElem? (i := 972) (by decide +kernel)⟩
theorem lw_p57 : lw_okq (⟨"PittanceHouseModel", "isEntitled", "(I)Z"⟩, 20) := ⟨⟨by decide +kernel, by decide +kernel⟩, List.mem_of_getElem? (i := 710) (by decide +kernel), List.mem_of_getElem? (i := 975) (by decide +kernel), List.mem_of_getElem? (i := 976) (by decide +kernel)⟩
theorem lw_p58 : lw_okq (⟨"PittanceHouseModel", "yearBegins", "()V"⟩, 20) := ⟨⟨by decide +kernel, by decide +kernel⟩, List.mem_of_getElem? (i := 710) (by decide +kernel), List.mem_of_getElem? (i := 979) (by decide +kernel), List.mem_of_getElem? (i := 980) (by decide +kernel)⟩
theorem lw_p59 : lw_okq (⟨"PittanceHouseModel", "shabbyAt", "(I)I"⟩, 20) := ⟨⟨by decide +kernel, by decide +kernel⟩, List.mem_of_getElem? (i := 710) (by decide +kernel), List.mem_of_getElem? (i := 983) (by decide +kernel), List.mem_of_getElem? (i := 984) (by decide +kernel)⟩
theorem lw_p60 : lw_okq (⟨"PittanceHouseModel", "isShabbier", "(II)Z"⟩, 20) := ⟨⟨by decide +kernel, by decide +kernel⟩, List.mem_of_getElem? (i := 710) (by decide +kernel), List.mem_of_getElem? (i := 987) (by decide +kernel), List.mem_of_getElem? (i := 988) (by decide +kernel)⟩
theorem lw_p61 : lw_okq (⟨"PittanceHouseModel", "isSeniorTo", "(II)Z"⟩, 20) := ⟨⟨by decide +kernel, by decide +kernel⟩, List.mem_of_getElem? (i := 710) (by decide +kernel), List.mem_of_getElem? (i := 991) (by decide +kernel), List.mem_of_getElem? (i := 992) (by decide +kernel)⟩
theorem lw_p62 : lw_okq (⟨"PittanceHouseModel", "forgets", "()V"⟩, 20) := ⟨⟨by decide +kernel, by decide +kernel⟩, List.mem_of_getElem? (i := 710) (by decide +kernel), List.mem_of_getElem? (i := 999) (by decide +kernel), List.mem_of_getElem? (i := 1000) (by decide +kernel)⟩
theorem lw_p63 : lw_okq (⟨"PittanceHouseModel", "brokeAll", "(I)I"⟩, 20) := ⟨⟨by decide +kernel, by decide +kernel⟩, List.mem_of_getElem? (i := 710) (by decide +kernel), List.mem_of_getElem? (i := 1011) (by decide +kernel), List.mem_of_getElem? (i := 1012) (by decide +kernel)⟩
def lw_privs_4 : List (MethodName × Nat) := [(⟨"PittanceHouseModel", "breaks", "(II)I"⟩, 20), (⟨"PittanceHouseModel", "notPardon", "(I)I"⟩, 20), (⟨"PittanceHouseModel", "pardons", "(I)I"⟩, 20), (⟨"PittanceHouseModel", "puts", "(I)I"⟩, 20), (⟨"PittanceHouseModel", "comesIn", "(I)V"⟩, 20), (⟨"PittanceHouseModel", "weeksGo", "(I)I"⟩, 20), (⟨"PittanceHouseModel", "weekGoes", "()I"⟩, 20), (⟨"PittanceHouseModel", "feastComes", "()I"⟩, 20), (⟨"PittanceHouseModel", "entitledMany", "()I"⟩, 20), (⟨"PittanceHouseModel", "isEntitled", "(I)Z"⟩, 20), (⟨"PittanceHouseModel", "yearBegins", "()V"⟩, 20), (⟨"PittanceHouseModel", "shabbyAt", "(I)I"⟩, 20), (⟨"PittanceHouseModel", "isShabbier", "(II)Z"⟩, 20), (⟨"PittanceHouseModel", "isSeniorTo", "(II)Z"⟩, 20), (⟨"PittanceHouseModel", "forgets", "()V"⟩, 20), (⟨"PittanceHouseModel", "brokeAll", "(I)I"⟩, 20)]
theorem lw_r4 : ∀ q ∈ lw_privs_4, lw_okq q := List.forall_mem_cons.mpr ⟨lw_p48, List.forall_mem_cons.mpr ⟨lw_p49, List.forall_mem_cons.mpr ⟨lw_p50, List.forall_mem_cons.mpr ⟨lw_p51, List.forall_mem_cons.mpr ⟨lw_p52, List.forall_mem_cons.mpr ⟨lw_p53, List.forall_mem_cons.mpr ⟨lw_p54, List.forall_mem_cons.mpr ⟨lw_p55, List.forall_mem_cons.mpr ⟨lw_p56, List.forall_mem_cons.mpr ⟨lw_p57, List.forall_mem_cons.mpr ⟨lw_p58, List.forall_mem_cons.mpr ⟨lw_p59, List.forall_mem_cons.mpr ⟨lw_p60, List.forall_mem_cons.mpr ⟨lw_p61, List.forall_mem_cons.mpr ⟨lw_p62, List.forall_mem_cons.mpr ⟨lw_p63, fun _ h => absurd h List.not_mem_nil⟩⟩⟩⟩⟩⟩⟩⟩⟩⟩⟩⟩⟩⟩⟩⟩
theorem lw_p64 : lw_okq (⟨"PittanceHouseModel", "placeInLine", "(I)I"⟩, 20) := ⟨⟨by decide +kernel, by decide +kernel⟩, List.mem_of_getElem? (i := 710) (by decide +kernel), List.mem_of_getElem? (i := 1015) (by decide +kernel), List.mem_of_getElem? (i := 1016) (by decide +kernel)⟩
theorem lw_p65 : lw_okq (⟨"PittanceHouseModel", "readsAll", "()Z"⟩, 20) := ⟨⟨by decide +kernel, by decide +kernel⟩, List.mem_of_getElem? (i := 710) (by decide +kernel), List.mem_of_getElem? (i := 1067) (by decide +kernel), List.mem_of_getElem? (i := 1068) (by decide +kernel)⟩
theorem lw_p66 : lw_okq (⟨"PittanceHouseModel", "readsOrder", "()Z"⟩, 20) := ⟨⟨by decide +kernel, by decide +kernel⟩, List.mem_of_getElem? (i := 710) (by decide +kernel), List.mem_of_getElem? (i := 1071) (by decide +kernel), List.mem_of_getElem? (i := 1072) (by decide +kernel)⟩
theorem lw_p67 : lw_okq (⟨"PittanceHouseModel", "reads", "(I)Z"⟩, 20) := ⟨⟨by decide +kernel, by decide +kernel⟩, List.mem_of_getElem? (i := 710) (by decide +kernel), List.mem_of_getElem? (i := 1075) (by decide +kernel), List.mem_of_getElem? (i := 1076) (by decide +kernel)⟩
theorem lw_p68 : lw_okq (⟨"PittanceHouseModel", "sign", "()I"⟩, 20) := ⟨⟨by decide +kernel, by decide +kernel⟩, List.mem_of_getElem? (i := 710) (by decide +kernel), List.mem_of_getElem? (i := 1079) (by decide +kernel), List.mem_of_getElem? (i := 1080) (by decide +kernel)⟩
theorem lw_p69 : lw_okq (⟨"PittanceHouseModel", "readsTwo", "(III)Z"⟩, 20) := ⟨⟨by decide +kernel, by decide +kernel⟩, List.mem_of_getElem? (i := 710) (by decide +kernel), List.mem_of_getElem? (i := 1083) (by decide +kernel), List.mem_of_getElem? (i := 1084) (by decide +kernel)⟩
theorem lw_p70 : lw_okq (⟨"PittanceHouseModel", "readsNumber", "(II)Z"⟩, 20) := ⟨⟨by decide +kernel, by decide +kernel⟩, List.mem_of_getElem? (i := 710) (by decide +kernel), List.mem_of_getElem? (i := 1087) (by decide +kernel), List.mem_of_getElem? (i := 1088) (by decide +kernel)⟩
theorem lw_p71 : lw_okq (⟨"PittanceHouseModel", "doesAll", "()Z"⟩, 20) := ⟨⟨by decide +kernel, by decide +kernel⟩, List.mem_of_getElem? (i := 710) (by decide +kernel), List.mem_of_getElem? (i := 1091) (by decide +kernel), List.mem_of_getElem? (i := 1092) (by decide +kernel)⟩
theorem lw_p72 : lw_okq (⟨"PittanceHouseModel", "notNow", "()I"⟩, 20) := ⟨⟨by decide +kernel, by decide +kernel⟩, List.mem_of_getElem? (i := 710) (by decide +kernel), List.mem_of_getElem? (i := 1095) (by decide +kernel), List.mem_of_getElem? (i := 1096) (by decide +kernel)⟩
theorem lw_p73 : lw_okq (⟨"PittanceHouseModel", "doesNow", "()I"⟩, 20) := ⟨⟨by decide +kernel, by decide +kernel⟩, List.mem_of_getElem? (i := 710) (by decide +kernel), List.mem_of_getElem? (i := 1099) (by decide +kernel), List.mem_of_getElem? (i := 1100) (by decide +kernel)⟩
theorem lw_p74 : lw_okq (⟨"PittanceHouseModel", "writes", "(I)V"⟩, 20) := ⟨⟨by decide +kernel, by decide +kernel⟩, List.mem_of_getElem? (i := 710) (by decide +kernel), List.mem_of_getElem? (i := 1107) (by decide +kernel), List.mem_of_getElem? (i := 1108) (by decide +kernel)⟩
theorem lw_p75 : lw_okq (⟨"PittanceHouseModel", "writesCell", "(I)V"⟩, 20) := ⟨⟨by decide +kernel, by decide +kernel⟩, List.mem_of_getElem? (i := 710) (by decide +kernel), List.mem_of_getElem? (i := 1111) (by decide +kernel), List.mem_of_getElem? (i := 1112) (by decide +kernel)⟩
theorem lw_p76 : lw_okq (⟨"PittanceHouseModel", "writesNumber", "(I)V"⟩, 20) := ⟨⟨by decide +kernel, by decide +kernel⟩, List.mem_of_getElem? (i := 710) (by decide +kernel), List.mem_of_getElem? (i := 1115) (by decide +kernel), List.mem_of_getElem? (i := 1116) (by decide +kernel)⟩
theorem lw_p77 : lw_okq (⟨"PittanceHouseModel", "inLine", "(I)I"⟩, 20) := ⟨⟨by decide +kernel, by decide +kernel⟩, List.mem_of_getElem? (i := 710) (by decide +kernel), List.mem_of_getElem? (i := 1123) (by decide +kernel), List.mem_of_getElem? (i := 1124) (by decide +kernel)⟩
theorem lw_p78 : lw_okq (⟨"PittanceHouseModel", "banned", "()I"⟩, 20) := ⟨⟨by decide +kernel, by decide +kernel⟩, List.mem_of_getElem? (i := 710) (by decide +kernel), List.mem_of_getElem? (i := 1135) (by decide +kernel), List.mem_of_getElem? (i := 1136) (by decide +kernel)⟩
theorem lw_p79 : lw_okq (⟨"PittanceHouseModel", "gotAll", "()I"⟩, 20) := ⟨⟨by decide +kernel, by decide +kernel⟩, List.mem_of_getElem? (i := 710) (by decide +kernel), List.mem_of_getElem? (i := 1143) (by decide +kernel), List.mem_of_getElem? (i := 1144) (by decide +kernel)⟩
def lw_privs_5 : List (MethodName × Nat) := [(⟨"PittanceHouseModel", "placeInLine", "(I)I"⟩, 20), (⟨"PittanceHouseModel", "readsAll", "()Z"⟩, 20), (⟨"PittanceHouseModel", "readsOrder", "()Z"⟩, 20), (⟨"PittanceHouseModel", "reads", "(I)Z"⟩, 20), (⟨"PittanceHouseModel", "sign", "()I"⟩, 20), (⟨"PittanceHouseModel", "readsTwo", "(III)Z"⟩, 20), (⟨"PittanceHouseModel", "readsNumber", "(II)Z"⟩, 20), (⟨"PittanceHouseModel", "doesAll", "()Z"⟩, 20), (⟨"PittanceHouseModel", "notNow", "()I"⟩, 20), (⟨"PittanceHouseModel", "doesNow", "()I"⟩, 20), (⟨"PittanceHouseModel", "writes", "(I)V"⟩, 20), (⟨"PittanceHouseModel", "writesCell", "(I)V"⟩, 20), (⟨"PittanceHouseModel", "writesNumber", "(I)V"⟩, 20), (⟨"PittanceHouseModel", "inLine", "(I)I"⟩, 20), (⟨"PittanceHouseModel", "banned", "()I"⟩, 20), (⟨"PittanceHouseModel", "gotAll", "()I"⟩, 20)]
theorem lw_r5 : ∀ q ∈ lw_privs_5, lw_okq q := List.forall_mem_cons.mpr ⟨lw_p64, List.forall_mem_cons.mpr ⟨lw_p65, List.forall_mem_cons.mpr ⟨lw_p66, List.forall_mem_cons.mpr ⟨lw_p67, List.forall_mem_cons.mpr ⟨lw_p68, List.forall_mem_cons.mpr ⟨lw_p69, List.forall_mem_cons.mpr ⟨lw_p70, List.forall_mem_cons.mpr ⟨lw_p71, List.forall_mem_cons.mpr ⟨lw_p72, List.forall_mem_cons.mpr ⟨lw_p73, List.forall_mem_cons.mpr ⟨lw_p74, List.forall_mem_cons.mpr ⟨lw_p75, List.forall_mem_cons.mpr ⟨lw_p76, List.forall_mem_cons.mpr ⟨lw_p77, List.forall_mem_cons.mpr ⟨lw_p78, List.forall_mem_cons.mpr ⟨lw_p79, fun _ h => absurd h List.not_mem_nil⟩⟩⟩⟩⟩⟩⟩⟩⟩⟩⟩⟩⟩⟩⟩⟩
def lw_privs : List (MethodName × Nat) := lw_privs_1 ++ (lw_privs_2 ++ (lw_privs_3 ++ (lw_privs_4 ++ (lw_privs_5))))
def lw_tbl : List Cond := k2_sels lw_privs ++ tables_1
theorem lw_privs_ok : ∀ q ∈ lw_privs, lw_okq q := by
  show ∀ q ∈ lw_privs_1 ++ (lw_privs_2 ++ (lw_privs_3 ++ (lw_privs_4 ++ (lw_privs_5)))), lw_okq q
  exact List.forall_mem_append.mpr ⟨lw_r1, List.forall_mem_append.mpr ⟨lw_r2, List.forall_mem_append.mpr ⟨lw_r3, List.forall_mem_append.mpr ⟨lw_r4, lw_r5⟩⟩⟩⟩
/-- the streams that the claim lets the run draw from -/
abbrev lw_cs : List Choice := [Jvm.Choice.named "NaN.bits"]
theorem lw_bits : nanBits ∈ lw_cs := by first | decide | exact List.mem_cons_self | simp [lw_cs, nanBits]
end
section
/-! ===== BEGIN printed: names, fields, word lists, decode rows ===== -/
def RX0 : String := "PittanceHouse$Deeds"
def TX0 : u_T := fun k => match k with
  | 0 => ("PittanceHouse$Deeds", "state", "LPittanceHouse$State;", true)
  | 1 => ("PittanceHouse$Deeds", "ranks", "LPittanceHouse$Ranks;", true)
  | 2 => ("PittanceHouse$Deeds", "why", "I", false)
  | _ => ("PittanceHouse$Deeds", "detail", "I", false)
def tyX0 : Nat → FieldType := fun k => match k with
  | 0 => .object "PittanceHouse$State"
  | 1 => .object "PittanceHouse$Ranks"
  | 2 => .int
  | _ => .int
abbrev wsX00 : List Cond := u_ws RX0 TX0 4
theorem nmX0 : ∀ a, a < 4 → ∀ b, b < 4 → a ≠ b → (TX0 a).2.1 ≠ (TX0 b).2.1 := by decide +kernel
theorem tyX0_ok : ∀ k, k < 4 → parseFieldDescriptor (TX0 k).2.2.1 = some (tyX0 k) := by decide +kernel
abbrev cX0_init : ByteArray := prog_2_method_1_code
def yX0_init : MethodName := ⟨RX0, "<init>", "()V"⟩
abbrev cX0_beginFrom : ByteArray := prog_2_method_2_code
def yX0_beginFrom : MethodName := ⟨RX0, "beginFrom", "(LPittanceHouse$State;)V"⟩
abbrev cX0_result : ByteArray := prog_2_method_3_code
def yX0_result : MethodName := ⟨RX0, "result", "()LPittanceHouse$State;"⟩
abbrev cX0_refusedFor : ByteArray := prog_2_method_4_code
def yX0_refusedFor : MethodName := ⟨RX0, "refusedFor", "()I"⟩
abbrev cX0_refusedDetail : ByteArray := prog_2_method_5_code
def yX0_refusedDetail : MethodName := ⟨RX0, "refusedDetail", "()I"⟩
abbrev cX0_refuse : ByteArray := prog_2_method_6_code
def yX0_refuse : MethodName := ⟨RX0, "refuse", "(II)I"⟩
abbrev cX0_admit : ByteArray := prog_2_method_7_code
def yX0_admit : MethodName := ⟨RX0, "admit", "(IZ)I"⟩
abbrev cX0_dropFromLine : ByteArray := prog_2_method_8_code
def yX0_dropFromLine : MethodName := ⟨RX0, "dropFromLine", "(I)I"⟩
abbrev cX0_giveVoice : ByteArray := prog_2_method_9_code
def yX0_giveVoice : MethodName := ⟨RX0, "giveVoice", "(II)I"⟩
abbrev cX0_fillCell : ByteArray := prog_2_method_10_code
def yX0_fillCell : MethodName := ⟨RX0, "fillCell", "(I)I"⟩
abbrev cX0_emptyCell : ByteArray := prog_2_method_11_code
def yX0_emptyCell : MethodName := ⟨RX0, "emptyCell", "(I)I"⟩
abbrev cX0_setFeast : ByteArray := prog_2_method_12_code
def yX0_setFeast : MethodName := ⟨RX0, "setFeast", "(II)I"⟩
abbrev cX0_breakRule : ByteArray := prog_2_method_13_code
def yX0_breakRule : MethodName := ⟨RX0, "breakRule", "(II)I"⟩
abbrev cX0_endBan : ByteArray := prog_2_method_14_code
def yX0_endBan : MethodName := ⟨RX0, "endBan", "(I)I"⟩
abbrev cX0_takeGift : ByteArray := prog_2_method_15_code
def yX0_takeGift : MethodName := ⟨RX0, "takeGift", "(I)I"⟩
abbrev cX0_spendWeeks : ByteArray := prog_2_method_16_code
def yX0_spendWeeks : MethodName := ⟨RX0, "spendWeeks", "(I)I"⟩
abbrev cX0_after : ByteArray := prog_2_method_17_code
def yX0_after : MethodName := ⟨RX0, "after", "(I)LPittanceHouse$State;"⟩
abbrev cX0_perform : ByteArray := prog_2_method_18_code
def yX0_perform : MethodName := ⟨RX0, "perform", "(III)I"⟩
abbrev cX0_dropVoicesFor : ByteArray := prog_2_method_19_code
def yX0_dropVoicesFor : MethodName := ⟨RX0, "dropVoicesFor", "(I)V"⟩
abbrev cX0_moveOut : ByteArray := prog_2_method_20_code
def yX0_moveOut : MethodName := ⟨RX0, "moveOut", "(II)V"⟩
abbrev cX0_payFeast : ByteArray := prog_2_method_21_code
def yX0_payFeast : MethodName := ⟨RX0, "payFeast", "(II)V"⟩
abbrev cX0_shortenBans : ByteArray := prog_2_method_22_code
def yX0_shortenBans : MethodName := ⟨RX0, "shortenBans", "()V"⟩
abbrev cX0_beginYear : ByteArray := prog_2_method_23_code
def yX0_beginYear : MethodName := ⟨RX0, "beginYear", "()V"⟩
abbrev cX0_buyGowns : ByteArray := prog_2_method_24_code
def yX0_buyGowns : MethodName := ⟨RX0, "buyGowns", "()V"⟩
def RX1 : String := "PittanceHouse$History"
def TX1 : u_T := fun k => match k with
  | 0 => ("PittanceHouse$History", "store", "[I", true)
  | 1 => ("PittanceHouse$History", "next", "I", false)
  | _ => ("PittanceHouse$History", "kept", "I", false)
def tyX1 : Nat → FieldType := fun k => match k with
  | 0 => .array .int
  | 1 => .int
  | _ => .int
abbrev wsX10 : List Cond := u_ws RX1 TX1 3
theorem nmX1 : ∀ a, a < 3 → ∀ b, b < 3 → a ≠ b → (TX1 a).2.1 ≠ (TX1 b).2.1 := by decide +kernel
theorem tyX1_ok : ∀ k, k < 3 → parseFieldDescriptor (TX1 k).2.2.1 = some (tyX1 k) := by decide +kernel
abbrev cX1_init : ByteArray := prog_3_method_1_code
def yX1_init : MethodName := ⟨RX1, "<init>", "()V"⟩
abbrev cX1_size : ByteArray := prog_3_method_2_code
def yX1_size : MethodName := ⟨RX1, "size", "()I"⟩
abbrev cX1_keep : ByteArray := prog_3_method_3_code
def yX1_keep : MethodName := ⟨RX1, "keep", "(LPittanceHouse$State;)V"⟩
abbrev cX1_giveBack : ByteArray := prog_3_method_4_code
def yX1_giveBack : MethodName := ⟨RX1, "giveBack", "(LPittanceHouse$State;)Z"⟩
abbrev cX1_forget : ByteArray := prog_3_method_5_code
def yX1_forget : MethodName := ⟨RX1, "forget", "()V"⟩
def RX2 : String := "PittanceHouse$Orders"
def TX2 : u_T := fun k => match k with
  | 0 => ("PittanceHouse$Orders", "kinds", "[I", true)
  | 1 => ("PittanceHouse$Orders", "firsts", "[I", true)
  | 2 => ("PittanceHouse$Orders", "seconds", "[I", true)
  | 3 => ("PittanceHouse$Orders", "many", "I", false)
  | 4 => ("PittanceHouse$Orders", "position", "I", false)
  | _ => ("PittanceHouse$Orders", "latestNumber", "I", false)
def tyX2 : Nat → FieldType := fun k => match k with
  | 0 => .array .int
  | 1 => .array .int
  | 2 => .array .int
  | 3 => .int
  | 4 => .int
  | _ => .int
abbrev wsX20 : List Cond := u_ws RX2 TX2 6
theorem nmX2 : ∀ a, a < 6 → ∀ b, b < 6 → a ≠ b → (TX2 a).2.1 ≠ (TX2 b).2.1 := by decide +kernel
theorem tyX2_ok : ∀ k, k < 6 → parseFieldDescriptor (TX2 k).2.2.1 = some (tyX2 k) := by decide +kernel
abbrev cX2_init : ByteArray := prog_4_method_1_code
def yX2_init : MethodName := ⟨RX2, "<init>", "()V"⟩
abbrev cX2_size : ByteArray := prog_4_method_2_code
def yX2_size : MethodName := ⟨RX2, "size", "()I"⟩
abbrev cX2_kindOf : ByteArray := prog_4_method_3_code
def yX2_kindOf : MethodName := ⟨RX2, "kindOf", "(I)I"⟩
abbrev cX2_firstOf : ByteArray := prog_4_method_4_code
def yX2_firstOf : MethodName := ⟨RX2, "firstOf", "(I)I"⟩
abbrev cX2_secondOf : ByteArray := prog_4_method_5_code
def yX2_secondOf : MethodName := ⟨RX2, "secondOf", "(I)I"⟩
abbrev cX2_read : ByteArray := prog_4_method_6_code
def yX2_read : MethodName := ⟨RX2, "read", "(LPittanceHouse$Signs;)I"⟩
abbrev cX2_readOrder : ByteArray := prog_4_method_7_code
def yX2_readOrder : MethodName := ⟨RX2, "readOrder", "(LPittanceHouse$Signs;)Z"⟩
abbrev cX2_keep : ByteArray := prog_4_method_8_code
def yX2_keep : MethodName := ⟨RX2, "keep", "(III)V"⟩
abbrev cX2_readWord : ByteArray := prog_4_method_9_code
def yX2_readWord : MethodName := ⟨RX2, "readWord", "(LPittanceHouse$Signs;Ljava/lang/String;)Z"⟩
abbrev cX2_readSign : ByteArray := prog_4_method_10_code
def yX2_readSign : MethodName := ⟨RX2, "readSign", "(LPittanceHouse$Signs;I)Z"⟩
abbrev cX2_readNumber : ByteArray := prog_4_method_11_code
def yX2_readNumber : MethodName := ⟨RX2, "readNumber", "(LPittanceHouse$Signs;I)Z"⟩
abbrev cX2_kindWith : ByteArray := prog_4_method_12_code
def yX2_kindWith : MethodName := ⟨RX2, "kindWith", "(I)I"⟩
abbrev cX2_wordOf : ByteArray := prog_4_method_13_code
def yX2_wordOf : MethodName := ⟨RX2, "wordOf", "(I)Ljava/lang/String;"⟩
abbrev cX2_firstDigits : ByteArray := prog_4_method_14_code
def yX2_firstDigits : MethodName := ⟨RX2, "firstDigits", "(I)I"⟩
abbrev cX2_secondDigits : ByteArray := prog_4_method_15_code
def yX2_secondDigits : MethodName := ⟨RX2, "secondDigits", "(I)I"⟩
def RX3 : String := "PittanceHouse$Ranks"
def TX3 : u_T := fun k => match k with
  | _ => ("PittanceHouse$Ranks", "keys", "[I", true)
def tyX3 : Nat → FieldType := fun k => match k with
  | _ => .array .int
abbrev wsX30 : List Cond := u_ws RX3 TX3 1
theorem nmX3 : ∀ a, a < 1 → ∀ b, b < 1 → a ≠ b → (TX3 a).2.1 ≠ (TX3 b).2.1 := by decide +kernel
theorem tyX3_ok : ∀ k, k < 1 → parseFieldDescriptor (TX3 k).2.2.1 = some (tyX3 k) := by decide +kernel
abbrev cX3_init : ByteArray := prog_5_method_1_code
def yX3_init : MethodName := ⟨RX3, "<init>", "()V"⟩
abbrev cX3_byVoices : ByteArray := prog_5_method_2_code
def yX3_byVoices : MethodName := ⟨RX3, "byVoices", "(LPittanceHouse$State;I)I"⟩
abbrev cX3_byTime : ByteArray := prog_5_method_3_code
def yX3_byTime : MethodName := ⟨RX3, "byTime", "(LPittanceHouse$State;I)I"⟩
abbrev cX3_byGown : ByteArray := prog_5_method_4_code
def yX3_byGown : MethodName := ⟨RX3, "byGown", "(LPittanceHouse$State;I)I"⟩
abbrev cX3_withPlace : ByteArray := prog_5_method_5_code
def yX3_withPlace : MethodName := ⟨RX3, "withPlace", "(I)I"⟩
def RX4 : String := "PittanceHouse$Signs"
def TX4 : u_T := fun k => match k with
  | 0 => ("PittanceHouse$Signs", "codes", "[I", true)
  | _ => ("PittanceHouse$Signs", "used", "I", false)
def tyX4 : Nat → FieldType := fun k => match k with
  | 0 => .array .int
  | _ => .int
abbrev wsX40 : List Cond := u_ws RX4 TX4 2
theorem nmX4 : ∀ a, a < 2 → ∀ b, b < 2 → a ≠ b → (TX4 a).2.1 ≠ (TX4 b).2.1 := by decide +kernel
theorem tyX4_ok : ∀ k, k < 2 → parseFieldDescriptor (TX4 k).2.2.1 = some (tyX4 k) := by decide +kernel
abbrev cX4_init : ByteArray := prog_6_method_1_code
def yX4_init : MethodName := ⟨RX4, "<init>", "(I)V"⟩
abbrev cX4_size : ByteArray := prog_6_method_2_code
def yX4_size : MethodName := ⟨RX4, "size", "()I"⟩
abbrev cX4_at : ByteArray := prog_6_method_3_code
def yX4_at : MethodName := ⟨RX4, "at", "(I)I"⟩
abbrev cX4_clear : ByteArray := prog_6_method_4_code
def yX4_clear : MethodName := ⟨RX4, "clear", "()V"⟩
abbrev cX4_add : ByteArray := prog_6_method_5_code
def yX4_add : MethodName := ⟨RX4, "add", "(I)V"⟩
abbrev cX4_addNumber : ByteArray := prog_6_method_6_code
def yX4_addNumber : MethodName := ⟨RX4, "addNumber", "(I)V"⟩
def RX5 : String := "PittanceHouse$State"
def TX5 : u_T := fun k => match k with
  | _ => ("PittanceHouse$State", "row", "[I", true)
def tyX5 : Nat → FieldType := fun k => match k with
  | _ => .array .int
abbrev wsX50 : List Cond := u_ws RX5 TX5 1
theorem nmX5 : ∀ a, a < 1 → ∀ b, b < 1 → a ≠ b → (TX5 a).2.1 ≠ (TX5 b).2.1 := by decide +kernel
theorem tyX5_ok : ∀ k, k < 1 → parseFieldDescriptor (TX5 k).2.2.1 = some (tyX5 k) := by decide +kernel
abbrev cX5_init : ByteArray := prog_7_method_1_code
def yX5_init : MethodName := ⟨RX5, "<init>", "()V"⟩
abbrev cX5_get : ByteArray := prog_7_method_2_code
def yX5_get : MethodName := ⟨RX5, "get", "(I)I"⟩
abbrev cX5_set : ByteArray := prog_7_method_3_code
def yX5_set : MethodName := ⟨RX5, "set", "(II)V"⟩
abbrev cX5_of : ByteArray := prog_7_method_4_code
def yX5_of : MethodName := ⟨RX5, "of", "(II)I"⟩
abbrev cX5_setOf : ByteArray := prog_7_method_5_code
def yX5_setOf : MethodName := ⟨RX5, "setOf", "(III)V"⟩
abbrev cX5_copyFrom : ByteArray := prog_7_method_6_code
def yX5_copyFrom : MethodName := ⟨RX5, "copyFrom", "(LPittanceHouse$State;)V"⟩
abbrev cX5_copyTo : ByteArray := prog_7_method_7_code
def yX5_copyTo : MethodName := ⟨RX5, "copyTo", "([II)V"⟩
abbrev cX5_copyBack : ByteArray := prog_7_method_8_code
def yX5_copyBack : MethodName := ⟨RX5, "copyBack", "([II)V"⟩
abbrev cX5_isBrother : ByteArray := prog_7_method_9_code
def yX5_isBrother : MethodName := ⟨RX5, "isBrother", "(I)Z"⟩
abbrev cX5_is : ByteArray := prog_7_method_10_code
def yX5_is : MethodName := ⟨RX5, "is", "(II)Z"⟩
abbrev cX5_isEntitled : ByteArray := prog_7_method_11_code
def yX5_isEntitled : MethodName := ⟨RX5, "isEntitled", "(I)Z"⟩
abbrev cX5_howMany : ByteArray := prog_7_method_12_code
def yX5_howMany : MethodName := ⟨RX5, "howMany", "(I)I"⟩
abbrev cX5_entitledMany : ByteArray := prog_7_method_13_code
def yX5_entitledMany : MethodName := ⟨RX5, "entitledMany", "()I"⟩
abbrev cX5_voicesFor : ByteArray := prog_7_method_14_code
def yX5_voicesFor : MethodName := ⟨RX5, "voicesFor", "(I)I"⟩
abbrev cX5_pittanceIn : ByteArray := prog_7_method_15_code
def yX5_pittanceIn : MethodName := ⟨RX5, "pittanceIn", "(I)I"⟩
abbrev cX5_feastsTold : ByteArray := prog_7_method_16_code
def yX5_feastsTold : MethodName := ⟨RX5, "feastsTold", "()I"⟩
abbrev cX5_takeIn : ByteArray := prog_7_method_17_code
def yX5_takeIn : MethodName := ⟨RX5, "takeIn", "(I)V"⟩
def RX6 : String := "PittanceHouse"
def TX6 : u_T := fun k => match k with
  | 0 => ("PittanceHouse", "now", "LPittanceHouse$State;", true)
  | 1 => ("PittanceHouse", "snapshot", "LPittanceHouse$State;", true)
  | 2 => ("PittanceHouse", "trial", "LPittanceHouse$Deeds;", true)
  | 3 => ("PittanceHouse", "ranks", "LPittanceHouse$Ranks;", true)
  | 4 => ("PittanceHouse", "history", "LPittanceHouse$History;", true)
  | 5 => ("PittanceHouse", "orders", "LPittanceHouse$Orders;", true)
  | 6 => ("PittanceHouse", "text", "LPittanceHouse$Signs;", true)
  | 7 => ("PittanceHouse", "line", "LPittanceHouse$Signs;", true)
  | 8 => ("PittanceHouse", "tally", "[I", true)
  | 9 => ("PittanceHouse", "hasSnapshot", "Z", false)
  | 10 => ("PittanceHouse", "latestReason", "I", false)
  | _ => ("PittanceHouse", "latestDetail", "I", false)
def tyX6 : Nat → FieldType := fun k => match k with
  | 0 => .object "PittanceHouse$State"
  | 1 => .object "PittanceHouse$State"
  | 2 => .object "PittanceHouse$Deeds"
  | 3 => .object "PittanceHouse$Ranks"
  | 4 => .object "PittanceHouse$History"
  | 5 => .object "PittanceHouse$Orders"
  | 6 => .object "PittanceHouse$Signs"
  | 7 => .object "PittanceHouse$Signs"
  | 8 => .array .int
  | 9 => .boolean
  | 10 => .int
  | _ => .int
abbrev wsX60 : List Cond := u_ws RX6 TX6 12
theorem nmX6 : ∀ a, a < 12 → ∀ b, b < 12 → a ≠ b → (TX6 a).2.1 ≠ (TX6 b).2.1 := by decide +kernel
theorem tyX6_ok : ∀ k, k < 12 → parseFieldDescriptor (TX6 k).2.2.1 = some (tyX6 k) := by decide +kernel
abbrev cX6_init : ByteArray := prog_1_method_1_code
def yX6_init : MethodName := ⟨RX6, "<init>", "()V"⟩
abbrev cX6_come : ByteArray := prog_1_method_2_code
def yX6_come : MethodName := ⟨RX6, "come", "(IZ)I"⟩
abbrev cX6_withdraw : ByteArray := prog_1_method_3_code
def yX6_withdraw : MethodName := ⟨RX6, "withdraw", "(I)I"⟩
abbrev cX6_voice : ByteArray := prog_1_method_4_code
def yX6_voice : MethodName := ⟨RX6, "voice", "(II)I"⟩
abbrev cX6_choose : ByteArray := prog_1_method_5_code
def yX6_choose : MethodName := ⟨RX6, "choose", "(I)I"⟩
abbrev cX6_leave : ByteArray := prog_1_method_6_code
def yX6_leave : MethodName := ⟨RX6, "leave", "(I)I"⟩
abbrev cX6_feast : ByteArray := prog_1_method_7_code
def yX6_feast : MethodName := ⟨RX6, "feast", "(II)I"⟩
abbrev cX6_breach : ByteArray := prog_1_method_8_code
def yX6_breach : MethodName := ⟨RX6, "breach", "(II)I"⟩
abbrev cX6_pardon : ByteArray := prog_1_method_9_code
def yX6_pardon : MethodName := ⟨RX6, "pardon", "(I)I"⟩
abbrev cX6_gift : ByteArray := prog_1_method_10_code
def yX6_gift : MethodName := ⟨RX6, "gift", "(I)I"⟩
abbrev cX6_weeks : ByteArray := prog_1_method_11_code
def yX6_weeks : MethodName := ⟨RX6, "weeks", "(I)I"⟩
abbrev cX6_brotherOf : ByteArray := prog_1_method_12_code
def yX6_brotherOf : MethodName := ⟨RX6, "brotherOf", "(II)I"⟩
abbrev cX6_broke : ByteArray := prog_1_method_13_code
def yX6_broke : MethodName := ⟨RX6, "broke", "(II)I"⟩
abbrev cX6_inCell : ByteArray := prog_1_method_14_code
def yX6_inCell : MethodName := ⟨RX6, "inCell", "(I)I"⟩
abbrev cX6_entitled : ByteArray := prog_1_method_15_code
def yX6_entitled : MethodName := ⟨RX6, "entitled", "()I"⟩
abbrev cX6_entitledAgain : ByteArray := prog_1_method_16_code
def yX6_entitledAgain : MethodName := ⟨RX6, "entitledAgain", "()I"⟩
abbrev cX6_voices : ByteArray := prog_1_method_17_code
def yX6_voices : MethodName := ⟨RX6, "voices", "(I)I"⟩
abbrev cX6_voicesAgain : ByteArray := prog_1_method_18_code
def yX6_voicesAgain : MethodName := ⟨RX6, "voicesAgain", "(I)I"⟩
abbrev cX6_ranked : ByteArray := prog_1_method_19_code
def yX6_ranked : MethodName := ⟨RX6, "ranked", "(I)I"⟩
abbrev cX6_senior : ByteArray := prog_1_method_20_code
def yX6_senior : MethodName := ⟨RX6, "senior", "(I)I"⟩
abbrev cX6_shabby : ByteArray := prog_1_method_21_code
def yX6_shabby : MethodName := ⟨RX6, "shabby", "(I)I"⟩
abbrev cX6_nextFeast : ByteArray := prog_1_method_22_code
def yX6_nextFeast : MethodName := ⟨RX6, "nextFeast", "()I"⟩
abbrev cX6_wouldGet : ByteArray := prog_1_method_23_code
def yX6_wouldGet : MethodName := ⟨RX6, "wouldGet", "(II)I"⟩
abbrev cX6_chestIn : ByteArray := prog_1_method_24_code
def yX6_chestIn : MethodName := ⟨RX6, "chestIn", "(I)I"⟩
abbrev cX6_append : ByteArray := prog_1_method_25_code
def yX6_append : MethodName := ⟨RX6, "append", "(I)I"⟩
abbrev cX6_run : ByteArray := prog_1_method_26_code
def yX6_run : MethodName := ⟨RX6, "run", "()I"⟩
abbrev cX6_tell : ByteArray := prog_1_method_27_code
def yX6_tell : MethodName := ⟨RX6, "tell", "()I"⟩
abbrev cX6_tellWaiting : ByteArray := prog_1_method_28_code
def yX6_tellWaiting : MethodName := ⟨RX6, "tellWaiting", "()I"⟩
abbrev cX6_character : ByteArray := prog_1_method_29_code
def yX6_character : MethodName := ⟨RX6, "character", "(I)I"⟩
abbrev cX6_reason : ByteArray := prog_1_method_30_code
def yX6_reason : MethodName := ⟨RX6, "reason", "(Z)I"⟩
abbrev cX6_account : ByteArray := prog_1_method_31_code
def yX6_account : MethodName := ⟨RX6, "account", "(I)I"⟩
abbrev cX6_isBalanced : ByteArray := prog_1_method_32_code
def yX6_isBalanced : MethodName := ⟨RX6, "isBalanced", "()I"⟩
abbrev cX6_meanAge : ByteArray := prog_1_method_33_code
def yX6_meanAge : MethodName := ⟨RX6, "meanAge", "()D"⟩
abbrev cX6_entitledShare : ByteArray := prog_1_method_34_code
def yX6_entitledShare : MethodName := ⟨RX6, "entitledShare", "()F"⟩
abbrev cX6_undo : ByteArray := prog_1_method_35_code
def yX6_undo : MethodName := ⟨RX6, "undo", "()I"⟩
abbrev cX6_save : ByteArray := prog_1_method_36_code
def yX6_save : MethodName := ⟨RX6, "save", "()I"⟩
abbrev cX6_restore : ByteArray := prog_1_method_37_code
def yX6_restore : MethodName := ⟨RX6, "restore", "()I"⟩
abbrev cX6_onTrial : ByteArray := prog_1_method_38_code
def yX6_onTrial : MethodName := ⟨RX6, "onTrial", "()LPittanceHouse$Deeds;"⟩
abbrev cX6_settle : ByteArray := prog_1_method_39_code
def yX6_settle : MethodName := ⟨RX6, "settle", "(I)I"⟩
abbrev cX6_isCell : ByteArray := prog_1_method_40_code
def yX6_isCell : MethodName := ⟨RX6, "isCell", "(I)Z"⟩
abbrev cX6_isRule : ByteArray := prog_1_method_41_code
def yX6_isRule : MethodName := ⟨RX6, "isRule", "(I)Z"⟩
abbrev cX6_breachesOf : ByteArray := prog_1_method_42_code
def yX6_breachesOf : MethodName := ⟨RX6, "breachesOf", "(I)I"⟩
abbrev cX6_placeInLine : ByteArray := prog_1_method_43_code
def yX6_placeInLine : MethodName := ⟨RX6, "placeInLine", "(I)I"⟩
abbrev cX6_tallyVoices : ByteArray := prog_1_method_44_code
def yX6_tallyVoices : MethodName := ⟨RX6, "tallyVoices", "()V"⟩
abbrev cX6_brethrenUnderBan : ByteArray := prog_1_method_45_code
def yX6_brethrenUnderBan : MethodName := ⟨RX6, "brethrenUnderBan", "()I"⟩
abbrev cX6_cellsWith : ByteArray := prog_1_method_46_code
def yX6_cellsWith : MethodName := ⟨RX6, "cellsWith", "(I)I"⟩
abbrev cX6_addCell : ByteArray := prog_1_method_47_code
def yX6_addCell : MethodName := ⟨RX6, "addCell", "(I)V"⟩
abbrev cX6_addWaiting : ByteArray := prog_1_method_48_code
def yX6_addWaiting : MethodName := ⟨RX6, "addWaiting", "(I)V"⟩
def RX7 : String := "PittanceHouseModel"
def TX7 : u_T := fun k => match k with
  | 0 => ("PittanceHouseModel", "why", "I", false)
  | 1 => ("PittanceHouseModel", "detail", "I", false)
  | 2 => ("PittanceHouseModel", "reasonNow", "I", false)
  | 3 => ("PittanceHouseModel", "detailNow", "I", false)
  | 4 => ("PittanceHouseModel", "w", "[I", true)
  | 5 => ("PittanceHouseModel", "undos", "[I", true)
  | 6 => ("PittanceHouseModel", "savedRow", "[I", true)
  | 7 => ("PittanceHouseModel", "mind", "[I", true)
  | 8 => ("PittanceHouseModel", "changes", "I", false)
  | 9 => ("PittanceHouseModel", "firstChange", "I", false)
  | 10 => ("PittanceHouseModel", "isSaved", "Z", false)
  | 11 => ("PittanceHouseModel", "counted", "[I", true)
  | 12 => ("PittanceHouseModel", "input", "[C", true)
  | 13 => ("PittanceHouseModel", "length", "I", false)
  | 14 => ("PittanceHouseModel", "at", "I", false)
  | 15 => ("PittanceHouseModel", "numbers", "[I", true)
  | 16 => ("PittanceHouseModel", "sort", "I", false)
  | 17 => ("PittanceHouseModel", "done", "I", false)
  | 18 => ("PittanceHouseModel", "line", "[C", true)
  | _ => ("PittanceHouseModel", "lineLength", "I", false)
def tyX7 : Nat → FieldType := fun k => match k with
  | 0 => .int
  | 1 => .int
  | 2 => .int
  | 3 => .int
  | 4 => .array .int
  | 5 => .array .int
  | 6 => .array .int
  | 7 => .array .int
  | 8 => .int
  | 9 => .int
  | 10 => .boolean
  | 11 => .array .int
  | 12 => .array .char
  | 13 => .int
  | 14 => .int
  | 15 => .array .int
  | 16 => .int
  | 17 => .int
  | 18 => .array .char
  | _ => .int
abbrev wsX70 : List Cond := u_ws RX7 TX7 20
theorem nmX7 : ∀ a, a < 20 → ∀ b, b < 20 → a ≠ b → (TX7 a).2.1 ≠ (TX7 b).2.1 := by decide +kernel
theorem tyX7_ok : ∀ k, k < 20 → parseFieldDescriptor (TX7 k).2.2.1 = some (tyX7 k) := by decide +kernel
abbrev cX7_init : ByteArray := prog_9_method_1_code
def yX7_init : MethodName := ⟨RX7, "<init>", "()V"⟩
abbrev cX7_isBetween : ByteArray := prog_9_method_2_code
def yX7_isBetween : MethodName := ⟨RX7, "isBetween", "(III)Z"⟩
abbrev cX7_lesser : ByteArray := prog_9_method_3_code
def yX7_lesser : MethodName := ⟨RX7, "lesser", "(II)I"⟩
abbrev cX7_isNot : ByteArray := prog_9_method_4_code
def yX7_isNot : MethodName := ⟨RX7, "isNot", "(II)I"⟩
abbrev cX7_refuses : ByteArray := prog_9_method_5_code
def yX7_refuses : MethodName := ⟨RX7, "refuses", "(I)I"⟩
abbrev cX7_reason : ByteArray := prog_9_method_6_code
def yX7_reason : MethodName := ⟨RX7, "reason", "(Z)I"⟩
abbrev cX7_thinks : ByteArray := prog_9_method_7_code
def yX7_thinks : MethodName := ⟨RX7, "thinks", "()V"⟩
abbrev cX7_forgets : ByteArray := prog_9_method_8_code
def yX7_forgets : MethodName := ⟨RX7, "forgets", "()V"⟩
abbrev cX7_keepsMind : ByteArray := prog_9_method_9_code
def yX7_keepsMind : MethodName := ⟨RX7, "keepsMind", "()V"⟩
abbrev cX7_remembers : ByteArray := prog_9_method_10_code
def yX7_remembers : MethodName := ⟨RX7, "remembers", "()V"⟩
abbrev cX7_of : ByteArray := prog_9_method_11_code
def yX7_of : MethodName := ⟨RX7, "of", "(II)I"⟩
abbrev cX7_sets : ByteArray := prog_9_method_12_code
def yX7_sets : MethodName := ⟨RX7, "sets", "(III)V"⟩
abbrev cX7_isBrother : ByteArray := prog_9_method_13_code
def yX7_isBrother : MethodName := ⟨RX7, "isBrother", "(I)Z"⟩
abbrev cX7_isCell : ByteArray := prog_9_method_14_code
def yX7_isCell : MethodName := ⟨RX7, "isCell", "(I)Z"⟩
abbrev cX7_isSo : ByteArray := prog_9_method_15_code
def yX7_isSo : MethodName := ⟨RX7, "isSo", "(II)Z"⟩
abbrev cX7_brethrenThat : ByteArray := prog_9_method_16_code
def yX7_brethrenThat : MethodName := ⟨RX7, "brethrenThat", "(I)I"⟩
abbrev cX7_brotherIn : ByteArray := prog_9_method_17_code
def yX7_brotherIn : MethodName := ⟨RX7, "brotherIn", "(I)I"⟩
abbrev cX7_countsFor : ByteArray := prog_9_method_18_code
def yX7_countsFor : MethodName := ⟨RX7, "countsFor", "(I)I"⟩
abbrev cX7_voicesFor : ByteArray := prog_9_method_19_code
def yX7_voicesFor : MethodName := ⟨RX7, "voicesFor", "(I)I"⟩
abbrev cX7_voicesGo : ByteArray := prog_9_method_20_code
def yX7_voicesGo : MethodName := ⟨RX7, "voicesGo", "(I)V"⟩
abbrev cX7_stamps : ByteArray := prog_9_method_21_code
def yX7_stamps : MethodName := ⟨RX7, "stamps", "(I)V"⟩
abbrev cX7_becomes : ByteArray := prog_9_method_22_code
def yX7_becomes : MethodName := ⟨RX7, "becomes", "(II)V"⟩
abbrev cX7_come : ByteArray := prog_9_method_23_code
def yX7_come : MethodName := ⟨RX7, "come", "(IZ)I"⟩
abbrev cX7_withdraw : ByteArray := prog_9_method_24_code
def yX7_withdraw : MethodName := ⟨RX7, "withdraw", "(I)I"⟩
abbrev cX7_notVoice : ByteArray := prog_9_method_25_code
def yX7_notVoice : MethodName := ⟨RX7, "notVoice", "(II)I"⟩
abbrev cX7_gives : ByteArray := prog_9_method_26_code
def yX7_gives : MethodName := ⟨RX7, "gives", "(II)I"⟩
abbrev cX7_voice : ByteArray := prog_9_method_27_code
def yX7_voice : MethodName := ⟨RX7, "voice", "(II)I"⟩
abbrev cX7_isChosenAhead : ByteArray := prog_9_method_28_code
def yX7_isChosenAhead : MethodName := ⟨RX7, "isChosenAhead", "(II)Z"⟩
abbrev cX7_rankedAt : ByteArray := prog_9_method_29_code
def yX7_rankedAt : MethodName := ⟨RX7, "rankedAt", "(I)I"⟩
abbrev cX7_notChoose : ByteArray := prog_9_method_30_code
def yX7_notChoose : MethodName := ⟨RX7, "notChoose", "(I)I"⟩
abbrev cX7_chooses : ByteArray := prog_9_method_31_code
def yX7_chooses : MethodName := ⟨RX7, "chooses", "(I)I"⟩
abbrev cX7_choose : ByteArray := prog_9_method_32_code
def yX7_choose : MethodName := ⟨RX7, "choose", "(I)I"⟩
abbrev cX7_notLeave : ByteArray := prog_9_method_33_code
def yX7_notLeave : MethodName := ⟨RX7, "notLeave", "(I)I"⟩
abbrev cX7_leaves : ByteArray := prog_9_method_34_code
def yX7_leaves : MethodName := ⟨RX7, "leaves", "(I)I"⟩
abbrev cX7_leave : ByteArray := prog_9_method_35_code
def yX7_leave : MethodName := ⟨RX7, "leave", "(I)I"⟩
abbrev cX7_notFeast : ByteArray := prog_9_method_36_code
def yX7_notFeast : MethodName := ⟨RX7, "notFeast", "(II)I"⟩
abbrev cX7_tells : ByteArray := prog_9_method_37_code
def yX7_tells : MethodName := ⟨RX7, "tells", "(II)I"⟩
abbrev cX7_feast : ByteArray := prog_9_method_38_code
def yX7_feast : MethodName := ⟨RX7, "feast", "(II)I"⟩
abbrev cX7_notBreach : ByteArray := prog_9_method_39_code
def yX7_notBreach : MethodName := ⟨RX7, "notBreach", "(II)I"⟩
abbrev cX7_breaks : ByteArray := prog_9_method_40_code
def yX7_breaks : MethodName := ⟨RX7, "breaks", "(II)I"⟩
abbrev cX7_breach : ByteArray := prog_9_method_41_code
def yX7_breach : MethodName := ⟨RX7, "breach", "(II)I"⟩
abbrev cX7_notPardon : ByteArray := prog_9_method_42_code
def yX7_notPardon : MethodName := ⟨RX7, "notPardon", "(I)I"⟩
abbrev cX7_pardons : ByteArray := prog_9_method_43_code
def yX7_pardons : MethodName := ⟨RX7, "pardons", "(I)I"⟩
abbrev cX7_pardon : ByteArray := prog_9_method_44_code
def yX7_pardon : MethodName := ⟨RX7, "pardon", "(I)I"⟩
abbrev cX7_comesIn : ByteArray := prog_9_method_45_code
def yX7_comesIn : MethodName := ⟨RX7, "comesIn", "(I)V"⟩
abbrev cX7_puts : ByteArray := prog_9_method_46_code
def yX7_puts : MethodName := ⟨RX7, "puts", "(I)I"⟩
abbrev cX7_gift : ByteArray := prog_9_method_47_code
def yX7_gift : MethodName := ⟨RX7, "gift", "(I)I"⟩
abbrev cX7_isEntitled : ByteArray := prog_9_method_48_code
def yX7_isEntitled : MethodName := ⟨RX7, "isEntitled", "(I)Z"⟩
abbrev cX7_entitledMany : ByteArray := prog_9_method_49_code
def yX7_entitledMany : MethodName := ⟨RX7, "entitledMany", "()I"⟩
abbrev cX7_feastComes : ByteArray := prog_9_method_50_code
def yX7_feastComes : MethodName := ⟨RX7, "feastComes", "()I"⟩
abbrev cX7_isSeniorTo : ByteArray := prog_9_method_51_code
def yX7_isSeniorTo : MethodName := ⟨RX7, "isSeniorTo", "(II)Z"⟩
abbrev cX7_isShabbier : ByteArray := prog_9_method_52_code
def yX7_isShabbier : MethodName := ⟨RX7, "isShabbier", "(II)Z"⟩
abbrev cX7_shabbyAt : ByteArray := prog_9_method_53_code
def yX7_shabbyAt : MethodName := ⟨RX7, "shabbyAt", "(I)I"⟩
abbrev cX7_yearBegins : ByteArray := prog_9_method_54_code
def yX7_yearBegins : MethodName := ⟨RX7, "yearBegins", "()V"⟩
abbrev cX7_weekGoes : ByteArray := prog_9_method_55_code
def yX7_weekGoes : MethodName := ⟨RX7, "weekGoes", "()I"⟩
abbrev cX7_weeksGo : ByteArray := prog_9_method_56_code
def yX7_weeksGo : MethodName := ⟨RX7, "weeksGo", "(I)I"⟩
abbrev cX7_weeks : ByteArray := prog_9_method_57_code
def yX7_weeks : MethodName := ⟨RX7, "weeks", "(I)I"⟩
abbrev cX7_wouldGet : ByteArray := prog_9_method_58_code
def yX7_wouldGet : MethodName := ⟨RX7, "wouldGet", "(II)I"⟩
abbrev cX7_chestIn : ByteArray := prog_9_method_59_code
def yX7_chestIn : MethodName := ⟨RX7, "chestIn", "(I)I"⟩
abbrev cX7_placeInLine : ByteArray := prog_9_method_60_code
def yX7_placeInLine : MethodName := ⟨RX7, "placeInLine", "(I)I"⟩
abbrev cX7_brokeAll : ByteArray := prog_9_method_61_code
def yX7_brokeAll : MethodName := ⟨RX7, "brokeAll", "(I)I"⟩
abbrev cX7_brotherOf : ByteArray := prog_9_method_62_code
def yX7_brotherOf : MethodName := ⟨RX7, "brotherOf", "(II)I"⟩
abbrev cX7_broke : ByteArray := prog_9_method_63_code
def yX7_broke : MethodName := ⟨RX7, "broke", "(II)I"⟩
abbrev cX7_inCell : ByteArray := prog_9_method_64_code
def yX7_inCell : MethodName := ⟨RX7, "inCell", "(I)I"⟩
abbrev cX7_entitled : ByteArray := prog_9_method_65_code
def yX7_entitled : MethodName := ⟨RX7, "entitled", "()I"⟩
abbrev cX7_entitledAgain : ByteArray := prog_9_method_66_code
def yX7_entitledAgain : MethodName := ⟨RX7, "entitledAgain", "()I"⟩
abbrev cX7_voices : ByteArray := prog_9_method_67_code
def yX7_voices : MethodName := ⟨RX7, "voices", "(I)I"⟩
abbrev cX7_voicesAgain : ByteArray := prog_9_method_68_code
def yX7_voicesAgain : MethodName := ⟨RX7, "voicesAgain", "(I)I"⟩
abbrev cX7_ranked : ByteArray := prog_9_method_69_code
def yX7_ranked : MethodName := ⟨RX7, "ranked", "(I)I"⟩
abbrev cX7_senior : ByteArray := prog_9_method_70_code
def yX7_senior : MethodName := ⟨RX7, "senior", "(I)I"⟩
abbrev cX7_shabby : ByteArray := prog_9_method_71_code
def yX7_shabby : MethodName := ⟨RX7, "shabby", "(I)I"⟩
abbrev cX7_nextFeast : ByteArray := prog_9_method_72_code
def yX7_nextFeast : MethodName := ⟨RX7, "nextFeast", "()I"⟩
abbrev cX7_append : ByteArray := prog_9_method_73_code
def yX7_append : MethodName := ⟨RX7, "append", "(I)I"⟩
abbrev cX7_sign : ByteArray := prog_9_method_74_code
def yX7_sign : MethodName := ⟨RX7, "sign", "()I"⟩
abbrev cX7_reads : ByteArray := prog_9_method_75_code
def yX7_reads : MethodName := ⟨RX7, "reads", "(I)Z"⟩
abbrev cX7_readsNumber : ByteArray := prog_9_method_76_code
def yX7_readsNumber : MethodName := ⟨RX7, "readsNumber", "(II)Z"⟩
abbrev cX7_readsTwo : ByteArray := prog_9_method_77_code
def yX7_readsTwo : MethodName := ⟨RX7, "readsTwo", "(III)Z"⟩
abbrev cX7_readsOrder : ByteArray := prog_9_method_78_code
def yX7_readsOrder : MethodName := ⟨RX7, "readsOrder", "()Z"⟩
abbrev cX7_readsAll : ByteArray := prog_9_method_79_code
def yX7_readsAll : MethodName := ⟨RX7, "readsAll", "()Z"⟩
abbrev cX7_notNow : ByteArray := prog_9_method_80_code
def yX7_notNow : MethodName := ⟨RX7, "notNow", "()I"⟩
abbrev cX7_doesNow : ByteArray := prog_9_method_81_code
def yX7_doesNow : MethodName := ⟨RX7, "doesNow", "()I"⟩
abbrev cX7_doesAll : ByteArray := prog_9_method_82_code
def yX7_doesAll : MethodName := ⟨RX7, "doesAll", "()Z"⟩
abbrev cX7_run : ByteArray := prog_9_method_83_code
def yX7_run : MethodName := ⟨RX7, "run", "()I"⟩
abbrev cX7_writes : ByteArray := prog_9_method_84_code
def yX7_writes : MethodName := ⟨RX7, "writes", "(I)V"⟩
abbrev cX7_writesNumber : ByteArray := prog_9_method_85_code
def yX7_writesNumber : MethodName := ⟨RX7, "writesNumber", "(I)V"⟩
abbrev cX7_writesCell : ByteArray := prog_9_method_86_code
def yX7_writesCell : MethodName := ⟨RX7, "writesCell", "(I)V"⟩
abbrev cX7_tell : ByteArray := prog_9_method_87_code
def yX7_tell : MethodName := ⟨RX7, "tell", "()I"⟩
abbrev cX7_inLine : ByteArray := prog_9_method_88_code
def yX7_inLine : MethodName := ⟨RX7, "inLine", "(I)I"⟩
abbrev cX7_tellWaiting : ByteArray := prog_9_method_89_code
def yX7_tellWaiting : MethodName := ⟨RX7, "tellWaiting", "()I"⟩
abbrev cX7_character : ByteArray := prog_9_method_90_code
def yX7_character : MethodName := ⟨RX7, "character", "(I)I"⟩
abbrev cX7_banned : ByteArray := prog_9_method_91_code
def yX7_banned : MethodName := ⟨RX7, "banned", "()I"⟩
abbrev cX7_gotAll : ByteArray := prog_9_method_92_code
def yX7_gotAll : MethodName := ⟨RX7, "gotAll", "()I"⟩
abbrev cX7_account : ByteArray := prog_9_method_93_code
def yX7_account : MethodName := ⟨RX7, "account", "(I)I"⟩
abbrev cX7_isBalanced : ByteArray := prog_9_method_94_code
def yX7_isBalanced : MethodName := ⟨RX7, "isBalanced", "()I"⟩
abbrev cX7_meanAge : ByteArray := prog_9_method_95_code
def yX7_meanAge : MethodName := ⟨RX7, "meanAge", "()D"⟩
abbrev cX7_entitledShare : ByteArray := prog_9_method_96_code
def yX7_entitledShare : MethodName := ⟨RX7, "entitledShare", "()F"⟩
abbrev cX7_undo : ByteArray := prog_9_method_97_code
def yX7_undo : MethodName := ⟨RX7, "undo", "()I"⟩
abbrev cX7_save : ByteArray := prog_9_method_98_code
def yX7_save : MethodName := ⟨RX7, "save", "()I"⟩
abbrev cX7_restore : ByteArray := prog_9_method_99_code
def yX7_restore : MethodName := ⟨RX7, "restore", "()I"⟩
def RJ9 : String := "java/lang/Math"
def TJ9 : u_T := fun k => match k with
  | _ => ("", "", "", false)
def tyJ9 : Nat → FieldType := fun k => match k with
  | _ => .int
abbrev wsJ90 : List Cond := u_ws RJ9 TJ9 0
theorem nmJ9 : ∀ a, a < 0 → ∀ b, b < 0 → a ≠ b → (TJ9 a).2.1 ≠ (TJ9 b).2.1 := by decide +kernel
theorem tyJ9_ok : ∀ k, k < 0 → parseFieldDescriptor (TJ9 k).2.2.1 = some (tyJ9 k) := by decide +kernel
abbrev cJ9_max_7cf53 : ByteArray := prog_10_method_65_code
def yJ9_max_7cf53 : MethodName := ⟨RJ9, "max", "(II)I"⟩
abbrev cJ9_min_7cf53 : ByteArray := prog_10_method_69_code
def yJ9_min_7cf53 : MethodName := ⟨RJ9, "min", "(II)I"⟩
def RJ0 : String := "java/lang/String"
def TJ0 : u_T := fun k => match k with
  | _ => ("", "", "", false)
def tyJ0 : Nat → FieldType := fun k => match k with
  | _ => .int
abbrev wsJ00 : List Cond := u_ws RJ0 TJ0 0
theorem nmJ0 : ∀ a, a < 0 → ∀ b, b < 0 → a ≠ b → (TJ0 a).2.1 ≠ (TJ0 b).2.1 := by decide +kernel
theorem tyJ0_ok : ∀ k, k < 0 → parseFieldDescriptor (TJ0 k).2.2.1 = some (tyJ0 k) := by decide +kernel
abbrev cJ0_length_8abf5 : ByteArray := prog_11_method_54_code
def yJ0_length_8abf5 : MethodName := ⟨RJ0, "length", "()I"⟩
abbrev cJ0_charAt_5068e : ByteArray := prog_11_method_56_code
def yJ0_charAt_5068e : MethodName := ⟨RJ0, "charAt", "(I)C"⟩
abbrev cJ0_coder_7d493 : ByteArray := prog_11_method_152_code
def yJ0_coder_7d493 : MethodName := ⟨RJ0, "coder", "()B"⟩
abbrev cJ0_isLatin1_aae02 : ByteArray := prog_11_method_154_code
def yJ0_isLatin1_aae02 : MethodName := ⟨RJ0, "isLatin1", "()Z"⟩
abbrev cJ0_checkIndex_df160 : ByteArray := prog_11_method_155_code
def yJ0_checkIndex_df160 : MethodName := ⟨RJ0, "checkIndex", "(II)V"⟩
def RJ1 : String := "java/lang/StringLatin1"
def TJ1 : u_T := fun k => match k with
  | _ => ("", "", "", false)
def tyJ1 : Nat → FieldType := fun k => match k with
  | _ => .int
abbrev wsJ10 : List Cond := u_ws RJ1 TJ1 0
theorem nmJ1 : ∀ a, a < 0 → ∀ b, b < 0 → a ≠ b → (TJ1 a).2.1 ≠ (TJ1 b).2.1 := by decide +kernel
theorem tyJ1_ok : ∀ k, k < 0 → parseFieldDescriptor (TJ1 k).2.2.1 = some (tyJ1 k) := by decide +kernel
abbrev cJ1_charAt_3b067 : ByteArray := prog_12_method_2_code
def yJ1_charAt_3b067 : MethodName := ⟨RJ1, "charAt", "([BI)C"⟩
def RJ2 : String := "java/lang/StringUTF16"
def TJ2 : u_T := fun k => match k with
  | _ => ("", "", "", false)
def tyJ2 : Nat → FieldType := fun k => match k with
  | _ => .int
abbrev wsJ20 : List Cond := u_ws RJ2 TJ2 0
theorem nmJ2 : ∀ a, a < 0 → ∀ b, b < 0 → a ≠ b → (TJ2 a).2.1 ≠ (TJ2 b).2.1 := by decide +kernel
theorem tyJ2_ok : ∀ k, k < 0 → parseFieldDescriptor (TJ2 k).2.2.1 = some (tyJ2 k) := by decide +kernel
abbrev cJ2_getChar_3b067 : ByteArray := prog_13_method_5_code
def yJ2_getChar_3b067 : MethodName := ⟨RJ2, "getChar", "([BI)C"⟩
abbrev cJ2_length_9d52b : ByteArray := prog_13_method_6_code
def yJ2_length_9d52b : MethodName := ⟨RJ2, "length", "([B)I"⟩
abbrev cJ2_charAt_3b067 : ByteArray := prog_13_method_83_code
def yJ2_charAt_3b067 : MethodName := ⟨RJ2, "charAt", "([BI)C"⟩
abbrev cJ2_checkIndex_2214a : ByteArray := prog_13_method_91_code
def yJ2_checkIndex_2214a : MethodName := ⟨RJ2, "checkIndex", "(I[B)V"⟩
def RJ10 : String := "java/lang/System"
def TJ10 : u_T := fun k => match k with
  | _ => ("", "", "", false)
def tyJ10 : Nat → FieldType := fun k => match k with
  | _ => .int
abbrev wsJ100 : List Cond := u_ws RJ10 TJ10 0
theorem nmJ10 : ∀ a, a < 0 → ∀ b, b < 0 → a ≠ b → (TJ10 a).2.1 ≠ (TJ10 b).2.1 := by decide +kernel
theorem tyJ10_ok : ∀ k, k < 0 → parseFieldDescriptor (TJ10 k).2.2.1 = some (tyJ10 k) := by decide +kernel
def RJ3 : String := "jdk/internal/util/Preconditions"
def TJ3 : u_T := fun k => match k with
  | _ => ("", "", "", false)
def tyJ3 : Nat → FieldType := fun k => match k with
  | _ => .int
abbrev wsJ30 : List Cond := u_ws RJ3 TJ3 0
theorem nmJ3 : ∀ a, a < 0 → ∀ b, b < 0 → a ≠ b → (TJ3 a).2.1 ≠ (TJ3 b).2.1 := by decide +kernel
theorem tyJ3_ok : ∀ k, k < 0 → parseFieldDescriptor (TJ3 k).2.2.1 = some (tyJ3 k) := by decide +kernel
abbrev cJ3_checkIndex_8e157 : ByteArray := prog_15_method_11_code
def yJ3_checkIndex_8e157 : MethodName := ⟨RJ3, "checkIndex", "(IILjava/util/function/BiFunction;)I"⟩
def RL : String := "PittanceHouseLaw"
abbrev cL_law : ByteArray := code
def yL_law : MethodName := ⟨RL, "law", "([I)Z"⟩
abbrev vwCl : List vw_C := [(RX0, TX0, 4), (RX1, TX1, 3), (RX2, TX2, 6), (RX3, TX3, 1), (RX4, TX4, 2), (RX5, TX5, 1), (RX6, TX6, 12), (RX7, TX7, 20)]
end
section
theorem dX0_init_0 : decode cX0_init 0 = .ok (.aload_n 0, 1) := by decide +kernel
theorem dX0_init_1 : decode cX0_init 1 = .ok (.invokespecial 3, 3) := by decide +kernel
theorem dX0_init_4 : decode cX0_init 4 = .ok (.aload_n 0, 1) := by decide +kernel
theorem dX0_init_5 : decode cX0_init 5 = .ok (.new 9, 3) := by decide +kernel
theorem dX0_init_8 : decode cX0_init 8 = .ok (.dup, 1) := by decide +kernel
theorem dX0_init_9 : decode cX0_init 9 = .ok (.invokespecial 11, 3) := by decide +kernel
theorem dX0_init_12 : decode cX0_init 12 = .ok (.putfield 12, 3) := by decide +kernel
theorem dX0_init_15 : decode cX0_init 15 = .ok (.aload_n 0, 1) := by decide +kernel
theorem dX0_init_16 : decode cX0_init 16 = .ok (.new 18, 3) := by decide +kernel
theorem dX0_init_19 : decode cX0_init 19 = .ok (.dup, 1) := by decide +kernel
theorem dX0_init_20 : decode cX0_init 20 = .ok (.invokespecial 20, 3) := by decide +kernel
theorem dX0_init_23 : decode cX0_init 23 = .ok (.putfield 21, 3) := by decide +kernel
theorem dX0_init_26 : decode cX0_init 26 = .ok (.aload_n 0, 1) := by decide +kernel
theorem dX0_init_27 : decode cX0_init 27 = .ok (.iconst 0, 1) := by decide +kernel
theorem dX0_init_28 : decode cX0_init 28 = .ok (.putfield 25, 3) := by decide +kernel
theorem dX0_init_31 : decode cX0_init 31 = .ok (.aload_n 0, 1) := by decide +kernel
theorem dX0_init_32 : decode cX0_init 32 = .ok (.iconst 0, 1) := by decide +kernel
theorem dX0_init_33 : decode cX0_init 33 = .ok (.putfield 29, 3) := by decide +kernel
theorem dX0_init_36 : decode cX0_init 36 = .ok (.return_, 1) := by decide +kernel
theorem dX0_beginFrom_0 : decode cX0_beginFrom 0 = .ok (.aload_n 0, 1) := by decide +kernel
theorem dX0_beginFrom_1 : decode cX0_beginFrom 1 = .ok (.getfield 12, 3) := by decide +kernel
theorem dX0_beginFrom_4 : decode cX0_beginFrom 4 = .ok (.aload_n 1, 1) := by decide +kernel
theorem dX0_beginFrom_5 : decode cX0_beginFrom 5 = .ok (.invokevirtual 32, 3) := by decide +kernel
theorem dX0_beginFrom_8 : decode cX0_beginFrom 8 = .ok (.return_, 1) := by decide +kernel
theorem dX0_result_0 : decode cX0_result 0 = .ok (.aload_n 0, 1) := by decide +kernel
theorem dX0_result_1 : decode cX0_result 1 = .ok (.getfield 12, 3) := by decide +kernel
theorem dX0_result_4 : decode cX0_result 4 = .ok (.areturn, 1) := by decide +kernel
theorem dX0_refusedFor_0 : decode cX0_refusedFor 0 = .ok (.aload_n 0, 1) := by decide +kernel
theorem dX0_refusedFor_1 : decode cX0_refusedFor 1 = .ok (.getfield 25, 3) := by decide +kernel
theorem dX0_refusedFor_4 : decode cX0_refusedFor 4 = .ok (.ireturn, 1) := by decide +kernel
theorem dX0_refusedDetail_0 : decode cX0_refusedDetail 0 = .ok (.aload_n 0, 1) := by decide +kernel
theorem dX0_refusedDetail_1 : decode cX0_refusedDetail 1 = .ok (.getfield 29, 3) := by decide +kernel
theorem dX0_refusedDetail_4 : decode cX0_refusedDetail 4 = .ok (.ireturn, 1) := by decide +kernel
theorem dX0_refuse_0 : decode cX0_refuse 0 = .ok (.aload_n 0, 1) := by decide +kernel
theorem dX0_refuse_1 : decode cX0_refuse 1 = .ok (.iload_n 1, 1) := by decide +kernel
theorem dX0_refuse_2 : decode cX0_refuse 2 = .ok (.putfield 25, 3) := by decide +kernel
theorem dX0_refuse_5 : decode cX0_refuse 5 = .ok (.aload_n 0, 1) := by decide +kernel
theorem dX0_refuse_6 : decode cX0_refuse 6 = .ok (.iload_n 2, 1) := by decide +kernel
theorem dX0_refuse_7 : decode cX0_refuse 7 = .ok (.putfield 29, 3) := by decide +kernel
theorem dX0_refuse_10 : decode cX0_refuse 10 = .ok (.bipush (-14), 2) := by decide +kernel
theorem dX0_refuse_12 : decode cX0_refuse 12 = .ok (.ireturn, 1) := by decide +kernel
theorem dX0_admit_0 : decode cX0_admit 0 = .ok (.iload_n 1, 1) := by decide +kernel
theorem dX0_admit_1 : decode cX0_admit 1 = .ok (.bipush 50, 2) := by decide +kernel
theorem dX0_admit_3 : decode cX0_admit 3 = .ok (.if_icmp .lt 9, 3) := by decide +kernel
theorem dX0_admit_6 : decode cX0_admit 6 = .ok (.iload_n 1, 1) := by decide +kernel
theorem dX0_admit_7 : decode cX0_admit 7 = .ok (.bipush 90, 2) := by decide +kernel
theorem dX0_admit_9 : decode cX0_admit 9 = .ok (.if_icmp .le 6, 3) := by decide +kernel
theorem dX0_admit_12 : decode cX0_admit 12 = .ok (.bipush (-12), 2) := by decide +kernel
theorem dX0_admit_14 : decode cX0_admit 14 = .ok (.ireturn, 1) := by decide +kernel
theorem dX0_admit_15 : decode cX0_admit 15 = .ok (.aload_n 0, 1) := by decide +kernel
theorem dX0_admit_16 : decode cX0_admit 16 = .ok (.getfield 12, 3) := by decide +kernel
theorem dX0_admit_19 : decode cX0_admit 19 = .ok (.sipush 284, 3) := by decide +kernel
theorem dX0_admit_22 : decode cX0_admit 22 = .ok (.invokevirtual 36, 3) := by decide +kernel
theorem dX0_admit_25 : decode cX0_admit 25 = .ok (.istore_n 3, 1) := by decide +kernel
theorem dX0_admit_26 : decode cX0_admit 26 = .ok (.iload_n 3, 1) := by decide +kernel
theorem dX0_admit_27 : decode cX0_admit 27 = .ok (.bipush 16, 2) := by decide +kernel
theorem dX0_admit_29 : decode cX0_admit 29 = .ok (.if_icmp .lt 11, 3) := by decide +kernel
theorem dX0_admit_32 : decode cX0_admit 32 = .ok (.aload_n 0, 1) := by decide +kernel
theorem dX0_admit_33 : decode cX0_admit 33 = .ok (.iconst 1, 1) := by decide +kernel
theorem dX0_admit_34 : decode cX0_admit 34 = .ok (.bipush 16, 2) := by decide +kernel
theorem dX0_admit_36 : decode cX0_admit 36 = .ok (.invokevirtual 40, 3) := by decide +kernel
theorem dX0_admit_39 : decode cX0_admit 39 = .ok (.ireturn, 1) := by decide +kernel
theorem dX0_admit_40 : decode cX0_admit 40 = .ok (.aload_n 0, 1) := by decide +kernel
theorem dX0_admit_41 : decode cX0_admit 41 = .ok (.getfield 12, 3) := by decide +kernel
theorem dX0_admit_44 : decode cX0_admit 44 = .ok (.sipush 284, 3) := by decide +kernel
theorem dX0_admit_47 : decode cX0_admit 47 = .ok (.iload_n 3, 1) := by decide +kernel
theorem dX0_admit_48 : decode cX0_admit 48 = .ok (.iconst 1, 1) := by decide +kernel
theorem dX0_admit_49 : decode cX0_admit 49 = .ok (.iadd, 1) := by decide +kernel
theorem dX0_admit_50 : decode cX0_admit 50 = .ok (.invokevirtual 44, 3) := by decide +kernel
theorem dX0_admit_53 : decode cX0_admit 53 = .ok (.aload_n 0, 1) := by decide +kernel
theorem dX0_admit_54 : decode cX0_admit 54 = .ok (.getfield 12, 3) := by decide +kernel
theorem dX0_admit_57 : decode cX0_admit 57 = .ok (.iconst 0, 1) := by decide +kernel
theorem dX0_admit_58 : decode cX0_admit 58 = .ok (.iload_n 3, 1) := by decide +kernel
theorem dX0_admit_59 : decode cX0_admit 59 = .ok (.iload_n 1, 1) := by decide +kernel
theorem dX0_admit_60 : decode cX0_admit 60 = .ok (.invokevirtual 48, 3) := by decide +kernel
theorem dX0_admit_63 : decode cX0_admit 63 = .ok (.aload_n 0, 1) := by decide +kernel
theorem dX0_admit_64 : decode cX0_admit 64 = .ok (.getfield 12, 3) := by decide +kernel
theorem dX0_admit_67 : decode cX0_admit 67 = .ok (.iconst 1, 1) := by decide +kernel
theorem dX0_admit_68 : decode cX0_admit 68 = .ok (.iload_n 3, 1) := by decide +kernel
theorem dX0_admit_69 : decode cX0_admit 69 = .ok (.iload_n 2, 1) := by decide +kernel
theorem dX0_admit_70 : decode cX0_admit 70 = .ok (.ifCond .eq 7, 3) := by decide +kernel
theorem dX0_admit_73 : decode cX0_admit 73 = .ok (.iconst 1, 1) := by decide +kernel
theorem dX0_admit_74 : decode cX0_admit 74 = .ok (.goto 4, 3) := by decide +kernel
theorem dX0_admit_77 : decode cX0_admit 77 = .ok (.iconst 0, 1) := by decide +kernel
theorem dX0_admit_78 : decode cX0_admit 78 = .ok (.invokevirtual 48, 3) := by decide +kernel
theorem dX0_admit_81 : decode cX0_admit 81 = .ok (.aload_n 0, 1) := by decide +kernel
theorem dX0_admit_82 : decode cX0_admit 82 = .ok (.getfield 12, 3) := by decide +kernel
theorem dX0_admit_85 : decode cX0_admit 85 = .ok (.iconst 2, 1) := by decide +kernel
theorem dX0_admit_86 : decode cX0_admit 86 = .ok (.iload_n 3, 1) := by decide +kernel
theorem dX0_admit_87 : decode cX0_admit 87 = .ok (.iconst 0, 1) := by decide +kernel
theorem dX0_admit_88 : decode cX0_admit 88 = .ok (.invokevirtual 48, 3) := by decide +kernel
theorem dX0_admit_91 : decode cX0_admit 91 = .ok (.iload_n 3, 1) := by decide +kernel
theorem dX0_admit_92 : decode cX0_admit 92 = .ok (.ireturn, 1) := by decide +kernel
theorem dX0_dropFromLine_0 : decode cX0_dropFromLine 0 = .ok (.aload_n 0, 1) := by decide +kernel
theorem dX0_dropFromLine_1 : decode cX0_dropFromLine 1 = .ok (.getfield 12, 3) := by decide +kernel
theorem dX0_dropFromLine_4 : decode cX0_dropFromLine 4 = .ok (.iload_n 1, 1) := by decide +kernel
theorem dX0_dropFromLine_5 : decode cX0_dropFromLine 5 = .ok (.invokevirtual 52, 3) := by decide +kernel
theorem dX0_dropFromLine_8 : decode cX0_dropFromLine 8 = .ok (.ifCond .ne 6, 3) := by decide +kernel
theorem dX0_dropFromLine_11 : decode cX0_dropFromLine 11 = .ok (.bipush (-11), 2) := by decide +kernel
theorem dX0_dropFromLine_13 : decode cX0_dropFromLine 13 = .ok (.ireturn, 1) := by decide +kernel
theorem dX0_dropFromLine_14 : decode cX0_dropFromLine 14 = .ok (.aload_n 0, 1) := by decide +kernel
theorem dX0_dropFromLine_15 : decode cX0_dropFromLine 15 = .ok (.getfield 12, 3) := by decide +kernel
theorem dX0_dropFromLine_18 : decode cX0_dropFromLine 18 = .ok (.iconst 0, 1) := by decide +kernel
theorem dX0_dropFromLine_19 : decode cX0_dropFromLine 19 = .ok (.iload_n 1, 1) := by decide +kernel
theorem dX0_dropFromLine_20 : decode cX0_dropFromLine 20 = .ok (.invokevirtual 56, 3) := by decide +kernel
theorem dX0_dropFromLine_23 : decode cX0_dropFromLine 23 = .ok (.ifCond .ne 18, 3) := by decide +kernel
theorem dX0_dropFromLine_26 : decode cX0_dropFromLine 26 = .ok (.aload_n 0, 1) := by decide +kernel
theorem dX0_dropFromLine_27 : decode cX0_dropFromLine 27 = .ok (.iconst 2, 1) := by decide +kernel
theorem dX0_dropFromLine_28 : decode cX0_dropFromLine 28 = .ok (.aload_n 0, 1) := by decide +kernel
theorem dX0_dropFromLine_29 : decode cX0_dropFromLine 29 = .ok (.getfield 12, 3) := by decide +kernel
theorem dX0_dropFromLine_32 : decode cX0_dropFromLine 32 = .ok (.iconst 2, 1) := by decide +kernel
theorem dX0_dropFromLine_33 : decode cX0_dropFromLine 33 = .ok (.iload_n 1, 1) := by decide +kernel
theorem dX0_dropFromLine_34 : decode cX0_dropFromLine 34 = .ok (.invokevirtual 60, 3) := by decide +kernel
theorem dX0_dropFromLine_37 : decode cX0_dropFromLine 37 = .ok (.invokevirtual 40, 3) := by decide +kernel
theorem dX0_dropFromLine_40 : decode cX0_dropFromLine 40 = .ok (.ireturn, 1) := by decide +kernel
theorem dX0_dropFromLine_41 : decode cX0_dropFromLine 41 = .ok (.aload_n 0, 1) := by decide +kernel
theorem dX0_dropFromLine_42 : decode cX0_dropFromLine 42 = .ok (.getfield 12, 3) := by decide +kernel
theorem dX0_dropFromLine_45 : decode cX0_dropFromLine 45 = .ok (.iconst 2, 1) := by decide +kernel
theorem dX0_dropFromLine_46 : decode cX0_dropFromLine 46 = .ok (.iload_n 1, 1) := by decide +kernel
theorem dX0_dropFromLine_47 : decode cX0_dropFromLine 47 = .ok (.iconst 3, 1) := by decide +kernel
theorem dX0_dropFromLine_48 : decode cX0_dropFromLine 48 = .ok (.invokevirtual 48, 3) := by decide +kernel
theorem dX0_dropFromLine_51 : decode cX0_dropFromLine 51 = .ok (.aload_n 0, 1) := by decide +kernel
theorem dX0_dropFromLine_52 : decode cX0_dropFromLine 52 = .ok (.iload_n 1, 1) := by decide +kernel
theorem dX0_dropFromLine_53 : decode cX0_dropFromLine 53 = .ok (.invokevirtual 63, 3) := by decide +kernel
theorem dX0_dropFromLine_56 : decode cX0_dropFromLine 56 = .ok (.aload_n 0, 1) := by decide +kernel
theorem dX0_dropFromLine_57 : decode cX0_dropFromLine 57 = .ok (.getfield 12, 3) := by decide +kernel
theorem dX0_dropFromLine_60 : decode cX0_dropFromLine 60 = .ok (.iconst 0, 1) := by decide +kernel
theorem dX0_dropFromLine_61 : decode cX0_dropFromLine 61 = .ok (.invokevirtual 67, 3) := by decide +kernel
theorem dX0_dropFromLine_64 : decode cX0_dropFromLine 64 = .ok (.ireturn, 1) := by decide +kernel
theorem dX0_giveVoice_0 : decode cX0_giveVoice 0 = .ok (.aload_n 0, 1) := by decide +kernel
theorem dX0_giveVoice_1 : decode cX0_giveVoice 1 = .ok (.getfield 12, 3) := by decide +kernel
theorem dX0_giveVoice_4 : decode cX0_giveVoice 4 = .ok (.iload_n 1, 1) := by decide +kernel
theorem dX0_giveVoice_5 : decode cX0_giveVoice 5 = .ok (.invokevirtual 52, 3) := by decide +kernel
theorem dX0_giveVoice_8 : decode cX0_giveVoice 8 = .ok (.ifCond .eq 14, 3) := by decide +kernel
theorem dX0_giveVoice_11 : decode cX0_giveVoice 11 = .ok (.aload_n 0, 1) := by decide +kernel
theorem dX0_giveVoice_12 : decode cX0_giveVoice 12 = .ok (.getfield 12, 3) := by decide +kernel
theorem dX0_giveVoice_15 : decode cX0_giveVoice 15 = .ok (.iload_n 2, 1) := by decide +kernel
theorem dX0_giveVoice_16 : decode cX0_giveVoice 16 = .ok (.invokevirtual 52, 3) := by decide +kernel
theorem dX0_giveVoice_19 : decode cX0_giveVoice 19 = .ok (.ifCond .ne 6, 3) := by decide +kernel
theorem dX0_giveVoice_22 : decode cX0_giveVoice 22 = .ok (.bipush (-11), 2) := by decide +kernel
theorem dX0_giveVoice_24 : decode cX0_giveVoice 24 = .ok (.ireturn, 1) := by decide +kernel
theorem dX0_giveVoice_25 : decode cX0_giveVoice 25 = .ok (.aload_n 0, 1) := by decide +kernel
theorem dX0_giveVoice_26 : decode cX0_giveVoice 26 = .ok (.getfield 12, 3) := by decide +kernel
theorem dX0_giveVoice_29 : decode cX0_giveVoice 29 = .ok (.iconst 1, 1) := by decide +kernel
theorem dX0_giveVoice_30 : decode cX0_giveVoice 30 = .ok (.iload_n 1, 1) := by decide +kernel
theorem dX0_giveVoice_31 : decode cX0_giveVoice 31 = .ok (.invokevirtual 56, 3) := by decide +kernel
theorem dX0_giveVoice_34 : decode cX0_giveVoice 34 = .ok (.ifCond .ne 18, 3) := by decide +kernel
theorem dX0_giveVoice_37 : decode cX0_giveVoice 37 = .ok (.aload_n 0, 1) := by decide +kernel
theorem dX0_giveVoice_38 : decode cX0_giveVoice 38 = .ok (.iconst 3, 1) := by decide +kernel
theorem dX0_giveVoice_39 : decode cX0_giveVoice 39 = .ok (.aload_n 0, 1) := by decide +kernel
theorem dX0_giveVoice_40 : decode cX0_giveVoice 40 = .ok (.getfield 12, 3) := by decide +kernel
theorem dX0_giveVoice_43 : decode cX0_giveVoice 43 = .ok (.iconst 2, 1) := by decide +kernel
theorem dX0_giveVoice_44 : decode cX0_giveVoice 44 = .ok (.iload_n 1, 1) := by decide +kernel
theorem dX0_giveVoice_45 : decode cX0_giveVoice 45 = .ok (.invokevirtual 60, 3) := by decide +kernel
theorem dX0_giveVoice_48 : decode cX0_giveVoice 48 = .ok (.invokevirtual 40, 3) := by decide +kernel
theorem dX0_giveVoice_51 : decode cX0_giveVoice 51 = .ok (.ireturn, 1) := by decide +kernel
theorem dX0_giveVoice_52 : decode cX0_giveVoice 52 = .ok (.aload_n 0, 1) := by decide +kernel
theorem dX0_giveVoice_53 : decode cX0_giveVoice 53 = .ok (.getfield 12, 3) := by decide +kernel
theorem dX0_giveVoice_56 : decode cX0_giveVoice 56 = .ok (.iconst 5, 1) := by decide +kernel
theorem dX0_giveVoice_57 : decode cX0_giveVoice 57 = .ok (.iload_n 1, 1) := by decide +kernel
theorem dX0_giveVoice_58 : decode cX0_giveVoice 58 = .ok (.invokevirtual 60, 3) := by decide +kernel
theorem dX0_giveVoice_61 : decode cX0_giveVoice 61 = .ok (.ifCond .le 18, 3) := by decide +kernel
theorem dX0_giveVoice_64 : decode cX0_giveVoice 64 = .ok (.aload_n 0, 1) := by decide +kernel
theorem dX0_giveVoice_65 : decode cX0_giveVoice 65 = .ok (.iconst 4, 1) := by decide +kernel
theorem dX0_giveVoice_66 : decode cX0_giveVoice 66 = .ok (.aload_n 0, 1) := by decide +kernel
theorem dX0_giveVoice_67 : decode cX0_giveVoice 67 = .ok (.getfield 12, 3) := by decide +kernel
theorem dX0_giveVoice_70 : decode cX0_giveVoice 70 = .ok (.iconst 5, 1) := by decide +kernel
theorem dX0_giveVoice_71 : decode cX0_giveVoice 71 = .ok (.iload_n 1, 1) := by decide +kernel
theorem dX0_giveVoice_72 : decode cX0_giveVoice 72 = .ok (.invokevirtual 60, 3) := by decide +kernel
theorem dX0_giveVoice_75 : decode cX0_giveVoice 75 = .ok (.invokevirtual 40, 3) := by decide +kernel
theorem dX0_giveVoice_78 : decode cX0_giveVoice 78 = .ok (.ireturn, 1) := by decide +kernel
theorem dX0_giveVoice_79 : decode cX0_giveVoice 79 = .ok (.aload_n 0, 1) := by decide +kernel
theorem dX0_giveVoice_80 : decode cX0_giveVoice 80 = .ok (.getfield 12, 3) := by decide +kernel
theorem dX0_giveVoice_83 : decode cX0_giveVoice 83 = .ok (.iconst 0, 1) := by decide +kernel
theorem dX0_giveVoice_84 : decode cX0_giveVoice 84 = .ok (.iload_n 2, 1) := by decide +kernel
theorem dX0_giveVoice_85 : decode cX0_giveVoice 85 = .ok (.invokevirtual 56, 3) := by decide +kernel
theorem dX0_giveVoice_88 : decode cX0_giveVoice 88 = .ok (.ifCond .ne 18, 3) := by decide +kernel
theorem dX0_giveVoice_91 : decode cX0_giveVoice 91 = .ok (.aload_n 0, 1) := by decide +kernel
theorem dX0_giveVoice_92 : decode cX0_giveVoice 92 = .ok (.iconst 2, 1) := by decide +kernel
theorem dX0_giveVoice_93 : decode cX0_giveVoice 93 = .ok (.aload_n 0, 1) := by decide +kernel
theorem dX0_giveVoice_94 : decode cX0_giveVoice 94 = .ok (.getfield 12, 3) := by decide +kernel
theorem dX0_giveVoice_97 : decode cX0_giveVoice 97 = .ok (.iconst 2, 1) := by decide +kernel
theorem dX0_giveVoice_98 : decode cX0_giveVoice 98 = .ok (.iload_n 2, 1) := by decide +kernel
theorem dX0_giveVoice_99 : decode cX0_giveVoice 99 = .ok (.invokevirtual 60, 3) := by decide +kernel
theorem dX0_giveVoice_102 : decode cX0_giveVoice 102 = .ok (.invokevirtual 40, 3) := by decide +kernel
theorem dX0_giveVoice_105 : decode cX0_giveVoice 105 = .ok (.ireturn, 1) := by decide +kernel
theorem dX0_giveVoice_106 : decode cX0_giveVoice 106 = .ok (.aload_n 0, 1) := by decide +kernel
theorem dX0_giveVoice_107 : decode cX0_giveVoice 107 = .ok (.getfield 12, 3) := by decide +kernel
theorem dX0_giveVoice_110 : decode cX0_giveVoice 110 = .ok (.bipush 7, 2) := by decide +kernel
theorem dX0_giveVoice_112 : decode cX0_giveVoice 112 = .ok (.iload_n 1, 1) := by decide +kernel
theorem dX0_giveVoice_113 : decode cX0_giveVoice 113 = .ok (.iload_n 2, 1) := by decide +kernel
theorem dX0_giveVoice_114 : decode cX0_giveVoice 114 = .ok (.invokevirtual 48, 3) := by decide +kernel
theorem dX0_giveVoice_117 : decode cX0_giveVoice 117 = .ok (.aload_n 0, 1) := by decide +kernel
theorem dX0_giveVoice_118 : decode cX0_giveVoice 118 = .ok (.getfield 12, 3) := by decide +kernel
theorem dX0_giveVoice_121 : decode cX0_giveVoice 121 = .ok (.iload_n 2, 1) := by decide +kernel
theorem dX0_giveVoice_122 : decode cX0_giveVoice 122 = .ok (.invokevirtual 70, 3) := by decide +kernel
theorem dX0_giveVoice_125 : decode cX0_giveVoice 125 = .ok (.ireturn, 1) := by decide +kernel
theorem dX0_fillCell_0 : decode cX0_fillCell 0 = .ok (.iload_n 1, 1) := by decide +kernel
theorem dX0_fillCell_1 : decode cX0_fillCell 1 = .ok (.invokestatic 73, 3) := by decide +kernel
theorem dX0_fillCell_4 : decode cX0_fillCell 4 = .ok (.ifCond .ne 6, 3) := by decide +kernel
theorem dX0_fillCell_7 : decode cX0_fillCell 7 = .ok (.bipush (-11), 2) := by decide +kernel
theorem dX0_fillCell_9 : decode cX0_fillCell 9 = .ok (.ireturn, 1) := by decide +kernel
theorem dX0_fillCell_10 : decode cX0_fillCell 10 = .ok (.aload_n 0, 1) := by decide +kernel
theorem dX0_fillCell_11 : decode cX0_fillCell 11 = .ok (.getfield 12, 3) := by decide +kernel
theorem dX0_fillCell_14 : decode cX0_fillCell 14 = .ok (.aload_n 0, 1) := by decide +kernel
theorem dX0_fillCell_15 : decode cX0_fillCell 15 = .ok (.getfield 12, 3) := by decide +kernel
theorem dX0_fillCell_18 : decode cX0_fillCell 18 = .ok (.sipush 224, 3) := by decide +kernel
theorem dX0_fillCell_21 : decode cX0_fillCell 21 = .ok (.iload_n 1, 1) := by decide +kernel
theorem dX0_fillCell_22 : decode cX0_fillCell 22 = .ok (.iadd, 1) := by decide +kernel
theorem dX0_fillCell_23 : decode cX0_fillCell 23 = .ok (.invokevirtual 36, 3) := by decide +kernel
theorem dX0_fillCell_26 : decode cX0_fillCell 26 = .ok (.invokevirtual 52, 3) := by decide +kernel
theorem dX0_fillCell_29 : decode cX0_fillCell 29 = .ok (.ifCond .eq 21, 3) := by decide +kernel
theorem dX0_fillCell_32 : decode cX0_fillCell 32 = .ok (.aload_n 0, 1) := by decide +kernel
theorem dX0_fillCell_33 : decode cX0_fillCell 33 = .ok (.iconst 5, 1) := by decide +kernel
theorem dX0_fillCell_34 : decode cX0_fillCell 34 = .ok (.aload_n 0, 1) := by decide +kernel
theorem dX0_fillCell_35 : decode cX0_fillCell 35 = .ok (.getfield 12, 3) := by decide +kernel
theorem dX0_fillCell_38 : decode cX0_fillCell 38 = .ok (.sipush 224, 3) := by decide +kernel
theorem dX0_fillCell_41 : decode cX0_fillCell 41 = .ok (.iload_n 1, 1) := by decide +kernel
theorem dX0_fillCell_42 : decode cX0_fillCell 42 = .ok (.iadd, 1) := by decide +kernel
theorem dX0_fillCell_43 : decode cX0_fillCell 43 = .ok (.invokevirtual 36, 3) := by decide +kernel
theorem dX0_fillCell_46 : decode cX0_fillCell 46 = .ok (.invokevirtual 40, 3) := by decide +kernel
theorem dX0_fillCell_49 : decode cX0_fillCell 49 = .ok (.ireturn, 1) := by decide +kernel
theorem dX0_fillCell_50 : decode cX0_fillCell 50 = .ok (.aload_n 0, 1) := by decide +kernel
theorem dX0_fillCell_51 : decode cX0_fillCell 51 = .ok (.getfield 21, 3) := by decide +kernel
theorem dX0_fillCell_54 : decode cX0_fillCell 54 = .ok (.aload_n 0, 1) := by decide +kernel
theorem dX0_fillCell_55 : decode cX0_fillCell 55 = .ok (.getfield 12, 3) := by decide +kernel
theorem dX0_fillCell_58 : decode cX0_fillCell 58 = .ok (.iconst 0, 1) := by decide +kernel
theorem dX0_fillCell_59 : decode cX0_fillCell 59 = .ok (.invokevirtual 76, 3) := by decide +kernel
theorem dX0_fillCell_62 : decode cX0_fillCell 62 = .ok (.istore_n 2, 1) := by decide +kernel
theorem dX0_fillCell_63 : decode cX0_fillCell 63 = .ok (.aload_n 0, 1) := by decide +kernel
theorem dX0_fillCell_64 : decode cX0_fillCell 64 = .ok (.getfield 12, 3) := by decide +kernel
theorem dX0_fillCell_67 : decode cX0_fillCell 67 = .ok (.iload_n 2, 1) := by decide +kernel
theorem dX0_fillCell_68 : decode cX0_fillCell 68 = .ok (.invokevirtual 52, 3) := by decide +kernel
theorem dX0_fillCell_71 : decode cX0_fillCell 71 = .ok (.ifCond .ne 11, 3) := by decide +kernel
theorem dX0_fillCell_74 : decode cX0_fillCell 74 = .ok (.aload_n 0, 1) := by decide +kernel
theorem dX0_fillCell_75 : decode cX0_fillCell 75 = .ok (.bipush 6, 2) := by decide +kernel
theorem dX0_fillCell_77 : decode cX0_fillCell 77 = .ok (.iload_n 1, 1) := by decide +kernel
theorem dX0_fillCell_78 : decode cX0_fillCell 78 = .ok (.invokevirtual 40, 3) := by decide +kernel
theorem dX0_fillCell_81 : decode cX0_fillCell 81 = .ok (.ireturn, 1) := by decide +kernel
theorem dX0_fillCell_82 : decode cX0_fillCell 82 = .ok (.aload_n 0, 1) := by decide +kernel
theorem dX0_fillCell_83 : decode cX0_fillCell 83 = .ok (.getfield 12, 3) := by decide +kernel
theorem dX0_fillCell_86 : decode cX0_fillCell 86 = .ok (.iconst 2, 1) := by decide +kernel
theorem dX0_fillCell_87 : decode cX0_fillCell 87 = .ok (.iload_n 2, 1) := by decide +kernel
theorem dX0_fillCell_88 : decode cX0_fillCell 88 = .ok (.iconst 1, 1) := by decide +kernel
theorem dX0_fillCell_89 : decode cX0_fillCell 89 = .ok (.invokevirtual 48, 3) := by decide +kernel
theorem dX0_fillCell_92 : decode cX0_fillCell 92 = .ok (.aload_n 0, 1) := by decide +kernel
theorem dX0_fillCell_93 : decode cX0_fillCell 93 = .ok (.getfield 12, 3) := by decide +kernel
theorem dX0_fillCell_96 : decode cX0_fillCell 96 = .ok (.iconst 3, 1) := by decide +kernel
theorem dX0_fillCell_97 : decode cX0_fillCell 97 = .ok (.iload_n 2, 1) := by decide +kernel
theorem dX0_fillCell_98 : decode cX0_fillCell 98 = .ok (.iload_n 1, 1) := by decide +kernel
theorem dX0_fillCell_99 : decode cX0_fillCell 99 = .ok (.invokevirtual 48, 3) := by decide +kernel
theorem dX0_fillCell_102 : decode cX0_fillCell 102 = .ok (.aload_n 0, 1) := by decide +kernel
theorem dX0_fillCell_103 : decode cX0_fillCell 103 = .ok (.getfield 12, 3) := by decide +kernel
theorem dX0_fillCell_106 : decode cX0_fillCell 106 = .ok (.iconst 4, 1) := by decide +kernel
theorem dX0_fillCell_107 : decode cX0_fillCell 107 = .ok (.iload_n 2, 1) := by decide +kernel
theorem dX0_fillCell_108 : decode cX0_fillCell 108 = .ok (.iconst 0, 1) := by decide +kernel
theorem dX0_fillCell_109 : decode cX0_fillCell 109 = .ok (.invokevirtual 48, 3) := by decide +kernel
theorem dX0_fillCell_112 : decode cX0_fillCell 112 = .ok (.aload_n 0, 1) := by decide +kernel
theorem dX0_fillCell_113 : decode cX0_fillCell 113 = .ok (.getfield 12, 3) := by decide +kernel
theorem dX0_fillCell_116 : decode cX0_fillCell 116 = .ok (.bipush 8, 2) := by decide +kernel
theorem dX0_fillCell_118 : decode cX0_fillCell 118 = .ok (.iload_n 2, 1) := by decide +kernel
theorem dX0_fillCell_119 : decode cX0_fillCell 119 = .ok (.aload_n 0, 1) := by decide +kernel
theorem dX0_fillCell_120 : decode cX0_fillCell 120 = .ok (.getfield 12, 3) := by decide +kernel
theorem dX0_fillCell_123 : decode cX0_fillCell 123 = .ok (.sipush 285, 3) := by decide +kernel
theorem dX0_fillCell_126 : decode cX0_fillCell 126 = .ok (.invokevirtual 36, 3) := by decide +kernel
theorem dX0_fillCell_129 : decode cX0_fillCell 129 = .ok (.invokevirtual 48, 3) := by decide +kernel
theorem dX0_fillCell_132 : decode cX0_fillCell 132 = .ok (.aload_n 0, 1) := by decide +kernel
theorem dX0_fillCell_133 : decode cX0_fillCell 133 = .ok (.getfield 12, 3) := by decide +kernel
theorem dX0_fillCell_136 : decode cX0_fillCell 136 = .ok (.sipush 285, 3) := by decide +kernel
theorem dX0_fillCell_139 : decode cX0_fillCell 139 = .ok (.aload_n 0, 1) := by decide +kernel
theorem dX0_fillCell_140 : decode cX0_fillCell 140 = .ok (.getfield 12, 3) := by decide +kernel
theorem dX0_fillCell_143 : decode cX0_fillCell 143 = .ok (.sipush 285, 3) := by decide +kernel
theorem dX0_fillCell_146 : decode cX0_fillCell 146 = .ok (.invokevirtual 36, 3) := by decide +kernel
theorem dX0_fillCell_149 : decode cX0_fillCell 149 = .ok (.iconst 1, 1) := by decide +kernel
theorem dX0_fillCell_150 : decode cX0_fillCell 150 = .ok (.iadd, 1) := by decide +kernel
theorem dX0_fillCell_151 : decode cX0_fillCell 151 = .ok (.invokevirtual 44, 3) := by decide +kernel
theorem dX0_fillCell_154 : decode cX0_fillCell 154 = .ok (.aload_n 0, 1) := by decide +kernel
theorem dX0_fillCell_155 : decode cX0_fillCell 155 = .ok (.getfield 12, 3) := by decide +kernel
theorem dX0_fillCell_158 : decode cX0_fillCell 158 = .ok (.sipush 224, 3) := by decide +kernel
theorem dX0_fillCell_161 : decode cX0_fillCell 161 = .ok (.iload_n 1, 1) := by decide +kernel
theorem dX0_fillCell_162 : decode cX0_fillCell 162 = .ok (.iadd, 1) := by decide +kernel
theorem dX0_fillCell_163 : decode cX0_fillCell 163 = .ok (.iload_n 2, 1) := by decide +kernel
theorem dX0_fillCell_164 : decode cX0_fillCell 164 = .ok (.invokevirtual 44, 3) := by decide +kernel
theorem dX0_fillCell_167 : decode cX0_fillCell 167 = .ok (.aload_n 0, 1) := by decide +kernel
theorem dX0_fillCell_168 : decode cX0_fillCell 168 = .ok (.iload_n 2, 1) := by decide +kernel
theorem dX0_fillCell_169 : decode cX0_fillCell 169 = .ok (.invokevirtual 63, 3) := by decide +kernel
theorem dX0_fillCell_172 : decode cX0_fillCell 172 = .ok (.iload_n 2, 1) := by decide +kernel
theorem dX0_fillCell_173 : decode cX0_fillCell 173 = .ok (.ireturn, 1) := by decide +kernel
theorem dX0_emptyCell_0 : decode cX0_emptyCell 0 = .ok (.iload_n 1, 1) := by decide +kernel
theorem dX0_emptyCell_1 : decode cX0_emptyCell 1 = .ok (.invokestatic 73, 3) := by decide +kernel
theorem dX0_emptyCell_4 : decode cX0_emptyCell 4 = .ok (.ifCond .ne 6, 3) := by decide +kernel
theorem dX0_emptyCell_7 : decode cX0_emptyCell 7 = .ok (.bipush (-11), 2) := by decide +kernel
theorem dX0_emptyCell_9 : decode cX0_emptyCell 9 = .ok (.ireturn, 1) := by decide +kernel
theorem dX0_emptyCell_10 : decode cX0_emptyCell 10 = .ok (.aload_n 0, 1) := by decide +kernel
theorem dX0_emptyCell_11 : decode cX0_emptyCell 11 = .ok (.getfield 12, 3) := by decide +kernel
theorem dX0_emptyCell_14 : decode cX0_emptyCell 14 = .ok (.sipush 224, 3) := by decide +kernel
theorem dX0_emptyCell_17 : decode cX0_emptyCell 17 = .ok (.iload_n 1, 1) := by decide +kernel
theorem dX0_emptyCell_18 : decode cX0_emptyCell 18 = .ok (.iadd, 1) := by decide +kernel
theorem dX0_emptyCell_19 : decode cX0_emptyCell 19 = .ok (.invokevirtual 36, 3) := by decide +kernel
theorem dX0_emptyCell_22 : decode cX0_emptyCell 22 = .ok (.istore_n 2, 1) := by decide +kernel
theorem dX0_emptyCell_23 : decode cX0_emptyCell 23 = .ok (.aload_n 0, 1) := by decide +kernel
theorem dX0_emptyCell_24 : decode cX0_emptyCell 24 = .ok (.getfield 12, 3) := by decide +kernel
theorem dX0_emptyCell_27 : decode cX0_emptyCell 27 = .ok (.iload_n 2, 1) := by decide +kernel
theorem dX0_emptyCell_28 : decode cX0_emptyCell 28 = .ok (.invokevirtual 52, 3) := by decide +kernel
theorem dX0_emptyCell_31 : decode cX0_emptyCell 31 = .ok (.ifCond .ne 11, 3) := by decide +kernel
theorem dX0_emptyCell_34 : decode cX0_emptyCell 34 = .ok (.aload_n 0, 1) := by decide +kernel
theorem dX0_emptyCell_35 : decode cX0_emptyCell 35 = .ok (.bipush 7, 2) := by decide +kernel
theorem dX0_emptyCell_37 : decode cX0_emptyCell 37 = .ok (.iload_n 1, 1) := by decide +kernel
theorem dX0_emptyCell_38 : decode cX0_emptyCell 38 = .ok (.invokevirtual 40, 3) := by decide +kernel
theorem dX0_emptyCell_41 : decode cX0_emptyCell 41 = .ok (.ireturn, 1) := by decide +kernel
theorem dX0_emptyCell_42 : decode cX0_emptyCell 42 = .ok (.aload_n 0, 1) := by decide +kernel
theorem dX0_emptyCell_43 : decode cX0_emptyCell 43 = .ok (.iload_n 2, 1) := by decide +kernel
theorem dX0_emptyCell_44 : decode cX0_emptyCell 44 = .ok (.iconst 3, 1) := by decide +kernel
theorem dX0_emptyCell_45 : decode cX0_emptyCell 45 = .ok (.invokevirtual 80, 3) := by decide +kernel
theorem dX0_emptyCell_48 : decode cX0_emptyCell 48 = .ok (.iload_n 2, 1) := by decide +kernel
theorem dX0_emptyCell_49 : decode cX0_emptyCell 49 = .ok (.ireturn, 1) := by decide +kernel
theorem dX0_setFeast_0 : decode cX0_setFeast 0 = .ok (.iload_n 1, 1) := by decide +kernel
theorem dX0_setFeast_1 : decode cX0_setFeast 1 = .ok (.ifCond .lt 20, 3) := by decide +kernel
theorem dX0_setFeast_4 : decode cX0_setFeast 4 = .ok (.iload_n 1, 1) := by decide +kernel
theorem dX0_setFeast_5 : decode cX0_setFeast 5 = .ok (.bipush 52, 2) := by decide +kernel
theorem dX0_setFeast_7 : decode cX0_setFeast 7 = .ok (.if_icmp .ge 14, 3) := by decide +kernel
theorem dX0_setFeast_10 : decode cX0_setFeast 10 = .ok (.iload_n 2, 1) := by decide +kernel
theorem dX0_setFeast_11 : decode cX0_setFeast 11 = .ok (.iconst 1, 1) := by decide +kernel
theorem dX0_setFeast_12 : decode cX0_setFeast 12 = .ok (.if_icmp .lt 9, 3) := by decide +kernel
theorem dX0_setFeast_15 : decode cX0_setFeast 15 = .ok (.iload_n 2, 1) := by decide +kernel
theorem dX0_setFeast_16 : decode cX0_setFeast 16 = .ok (.bipush 9, 2) := by decide +kernel
theorem dX0_setFeast_18 : decode cX0_setFeast 18 = .ok (.if_icmp .le 6, 3) := by decide +kernel
theorem dX0_setFeast_21 : decode cX0_setFeast 21 = .ok (.bipush (-12), 2) := by decide +kernel
theorem dX0_setFeast_23 : decode cX0_setFeast 23 = .ok (.ireturn, 1) := by decide +kernel
theorem dX0_setFeast_24 : decode cX0_setFeast 24 = .ok (.aload_n 0, 1) := by decide +kernel
theorem dX0_setFeast_25 : decode cX0_setFeast 25 = .ok (.getfield 12, 3) := by decide +kernel
theorem dX0_setFeast_28 : decode cX0_setFeast 28 = .ok (.iload_n 1, 1) := by decide +kernel
theorem dX0_setFeast_29 : decode cX0_setFeast 29 = .ok (.invokevirtual 83, 3) := by decide +kernel
theorem dX0_setFeast_32 : decode cX0_setFeast 32 = .ok (.ifCond .ne 24, 3) := by decide +kernel
theorem dX0_setFeast_35 : decode cX0_setFeast 35 = .ok (.aload_n 0, 1) := by decide +kernel
theorem dX0_setFeast_36 : decode cX0_setFeast 36 = .ok (.getfield 12, 3) := by decide +kernel
theorem dX0_setFeast_39 : decode cX0_setFeast 39 = .ok (.invokevirtual 86, 3) := by decide +kernel
theorem dX0_setFeast_42 : decode cX0_setFeast 42 = .ok (.bipush 6, 2) := by decide +kernel
theorem dX0_setFeast_44 : decode cX0_setFeast 44 = .ok (.if_icmp .lt 12, 3) := by decide +kernel
theorem dX0_setFeast_47 : decode cX0_setFeast 47 = .ok (.aload_n 0, 1) := by decide +kernel
theorem dX0_setFeast_48 : decode cX0_setFeast 48 = .ok (.bipush 8, 2) := by decide +kernel
theorem dX0_setFeast_50 : decode cX0_setFeast 50 = .ok (.bipush 6, 2) := by decide +kernel
theorem dX0_setFeast_52 : decode cX0_setFeast 52 = .ok (.invokevirtual 40, 3) := by decide +kernel
theorem dX0_setFeast_55 : decode cX0_setFeast 55 = .ok (.ireturn, 1) := by decide +kernel
theorem dX0_setFeast_56 : decode cX0_setFeast 56 = .ok (.aload_n 0, 1) := by decide +kernel
theorem dX0_setFeast_57 : decode cX0_setFeast 57 = .ok (.getfield 12, 3) := by decide +kernel
theorem dX0_setFeast_60 : decode cX0_setFeast 60 = .ok (.sipush 232, 3) := by decide +kernel
theorem dX0_setFeast_63 : decode cX0_setFeast 63 = .ok (.iload_n 1, 1) := by decide +kernel
theorem dX0_setFeast_64 : decode cX0_setFeast 64 = .ok (.iadd, 1) := by decide +kernel
theorem dX0_setFeast_65 : decode cX0_setFeast 65 = .ok (.iload_n 2, 1) := by decide +kernel
theorem dX0_setFeast_66 : decode cX0_setFeast 66 = .ok (.invokevirtual 44, 3) := by decide +kernel
theorem dX0_setFeast_69 : decode cX0_setFeast 69 = .ok (.aload_n 0, 1) := by decide +kernel
theorem dX0_setFeast_70 : decode cX0_setFeast 70 = .ok (.getfield 12, 3) := by decide +kernel
theorem dX0_setFeast_73 : decode cX0_setFeast 73 = .ok (.invokevirtual 86, 3) := by decide +kernel
theorem dX0_setFeast_76 : decode cX0_setFeast 76 = .ok (.ireturn, 1) := by decide +kernel
theorem dX0_breakRule_0 : decode cX0_breakRule 0 = .ok (.aload_n 0, 1) := by decide +kernel
theorem dX0_breakRule_1 : decode cX0_breakRule 1 = .ok (.getfield 12, 3) := by decide +kernel
theorem dX0_breakRule_4 : decode cX0_breakRule 4 = .ok (.iload_n 1, 1) := by decide +kernel
theorem dX0_breakRule_5 : decode cX0_breakRule 5 = .ok (.invokevirtual 52, 3) := by decide +kernel
theorem dX0_breakRule_8 : decode cX0_breakRule 8 = .ok (.ifCond .eq 10, 3) := by decide +kernel
theorem dX0_breakRule_11 : decode cX0_breakRule 11 = .ok (.iload_n 2, 1) := by decide +kernel
theorem dX0_breakRule_12 : decode cX0_breakRule 12 = .ok (.invokestatic 90, 3) := by decide +kernel
theorem dX0_breakRule_15 : decode cX0_breakRule 15 = .ok (.ifCond .ne 6, 3) := by decide +kernel
theorem dX0_breakRule_18 : decode cX0_breakRule 18 = .ok (.bipush (-11), 2) := by decide +kernel
theorem dX0_breakRule_20 : decode cX0_breakRule 20 = .ok (.ireturn, 1) := by decide +kernel
theorem dX0_breakRule_21 : decode cX0_breakRule 21 = .ok (.aload_n 0, 1) := by decide +kernel
theorem dX0_breakRule_22 : decode cX0_breakRule 22 = .ok (.getfield 12, 3) := by decide +kernel
theorem dX0_breakRule_25 : decode cX0_breakRule 25 = .ok (.iconst 1, 1) := by decide +kernel
theorem dX0_breakRule_26 : decode cX0_breakRule 26 = .ok (.iload_n 1, 1) := by decide +kernel
theorem dX0_breakRule_27 : decode cX0_breakRule 27 = .ok (.invokevirtual 56, 3) := by decide +kernel
theorem dX0_breakRule_30 : decode cX0_breakRule 30 = .ok (.ifCond .ne 18, 3) := by decide +kernel
theorem dX0_breakRule_33 : decode cX0_breakRule 33 = .ok (.aload_n 0, 1) := by decide +kernel
theorem dX0_breakRule_34 : decode cX0_breakRule 34 = .ok (.iconst 3, 1) := by decide +kernel
theorem dX0_breakRule_35 : decode cX0_breakRule 35 = .ok (.aload_n 0, 1) := by decide +kernel
theorem dX0_breakRule_36 : decode cX0_breakRule 36 = .ok (.getfield 12, 3) := by decide +kernel
theorem dX0_breakRule_39 : decode cX0_breakRule 39 = .ok (.iconst 2, 1) := by decide +kernel
theorem dX0_breakRule_40 : decode cX0_breakRule 40 = .ok (.iload_n 1, 1) := by decide +kernel
theorem dX0_breakRule_41 : decode cX0_breakRule 41 = .ok (.invokevirtual 60, 3) := by decide +kernel
theorem dX0_breakRule_44 : decode cX0_breakRule 44 = .ok (.invokevirtual 40, 3) := by decide +kernel
theorem dX0_breakRule_47 : decode cX0_breakRule 47 = .ok (.ireturn, 1) := by decide +kernel
theorem dX0_breakRule_48 : decode cX0_breakRule 48 = .ok (.aload_n 0, 1) := by decide +kernel
theorem dX0_breakRule_49 : decode cX0_breakRule 49 = .ok (.getfield 12, 3) := by decide +kernel
theorem dX0_breakRule_52 : decode cX0_breakRule 52 = .ok (.bipush 9, 2) := by decide +kernel
theorem dX0_breakRule_54 : decode cX0_breakRule 54 = .ok (.iload_n 2, 1) := by decide +kernel
theorem dX0_breakRule_55 : decode cX0_breakRule 55 = .ok (.iadd, 1) := by decide +kernel
theorem dX0_breakRule_56 : decode cX0_breakRule 56 = .ok (.iload_n 1, 1) := by decide +kernel
theorem dX0_breakRule_57 : decode cX0_breakRule 57 = .ok (.invokevirtual 60, 3) := by decide +kernel
theorem dX0_breakRule_60 : decode cX0_breakRule 60 = .ok (.iconst 1, 1) := by decide +kernel
theorem dX0_breakRule_61 : decode cX0_breakRule 61 = .ok (.iadd, 1) := by decide +kernel
theorem dX0_breakRule_62 : decode cX0_breakRule 62 = .ok (.istore_n 3, 1) := by decide +kernel
theorem dX0_breakRule_63 : decode cX0_breakRule 63 = .ok (.aload_n 0, 1) := by decide +kernel
theorem dX0_breakRule_64 : decode cX0_breakRule 64 = .ok (.getfield 12, 3) := by decide +kernel
theorem dX0_breakRule_67 : decode cX0_breakRule 67 = .ok (.bipush 9, 2) := by decide +kernel
theorem dX0_breakRule_69 : decode cX0_breakRule 69 = .ok (.iload_n 2, 1) := by decide +kernel
theorem dX0_breakRule_70 : decode cX0_breakRule 70 = .ok (.iadd, 1) := by decide +kernel
theorem dX0_breakRule_71 : decode cX0_breakRule 71 = .ok (.iload_n 1, 1) := by decide +kernel
theorem dX0_breakRule_72 : decode cX0_breakRule 72 = .ok (.iload_n 3, 1) := by decide +kernel
theorem dX0_breakRule_73 : decode cX0_breakRule 73 = .ok (.invokevirtual 48, 3) := by decide +kernel
theorem dX0_breakRule_76 : decode cX0_breakRule 76 = .ok (.iload_n 3, 1) := by decide +kernel
theorem dX0_breakRule_77 : decode cX0_breakRule 77 = .ok (.iconst 3, 1) := by decide +kernel
theorem dX0_breakRule_78 : decode cX0_breakRule 78 = .ok (.if_icmp .lt 12, 3) := by decide +kernel
theorem dX0_breakRule_81 : decode cX0_breakRule 81 = .ok (.aload_n 0, 1) := by decide +kernel
theorem dX0_breakRule_82 : decode cX0_breakRule 82 = .ok (.iload_n 1, 1) := by decide +kernel
theorem dX0_breakRule_83 : decode cX0_breakRule 83 = .ok (.iconst 2, 1) := by decide +kernel
theorem dX0_breakRule_84 : decode cX0_breakRule 84 = .ok (.invokevirtual 80, 3) := by decide +kernel
theorem dX0_breakRule_87 : decode cX0_breakRule 87 = .ok (.goto 23, 3) := by decide +kernel
theorem dX0_breakRule_90 : decode cX0_breakRule 90 = .ok (.aload_n 0, 1) := by decide +kernel
theorem dX0_breakRule_91 : decode cX0_breakRule 91 = .ok (.getfield 12, 3) := by decide +kernel
theorem dX0_breakRule_94 : decode cX0_breakRule 94 = .ok (.iconst 5, 1) := by decide +kernel
theorem dX0_breakRule_95 : decode cX0_breakRule 95 = .ok (.iload_n 1, 1) := by decide +kernel
theorem dX0_breakRule_96 : decode cX0_breakRule 96 = .ok (.aload_n 0, 1) := by decide +kernel
theorem dX0_breakRule_97 : decode cX0_breakRule 97 = .ok (.getfield 12, 3) := by decide +kernel
theorem dX0_breakRule_100 : decode cX0_breakRule 100 = .ok (.iconst 5, 1) := by decide +kernel
theorem dX0_breakRule_101 : decode cX0_breakRule 101 = .ok (.iload_n 1, 1) := by decide +kernel
theorem dX0_breakRule_102 : decode cX0_breakRule 102 = .ok (.invokevirtual 60, 3) := by decide +kernel
theorem dX0_breakRule_105 : decode cX0_breakRule 105 = .ok (.iload_n 3, 1) := by decide +kernel
theorem dX0_breakRule_106 : decode cX0_breakRule 106 = .ok (.iadd, 1) := by decide +kernel
theorem dX0_breakRule_107 : decode cX0_breakRule 107 = .ok (.invokevirtual 48, 3) := by decide +kernel
theorem dX0_breakRule_110 : decode cX0_breakRule 110 = .ok (.aload_n 0, 1) := by decide +kernel
theorem dX0_breakRule_111 : decode cX0_breakRule 111 = .ok (.getfield 12, 3) := by decide +kernel
theorem dX0_breakRule_114 : decode cX0_breakRule 114 = .ok (.iconst 5, 1) := by decide +kernel
theorem dX0_breakRule_115 : decode cX0_breakRule 115 = .ok (.iload_n 1, 1) := by decide +kernel
theorem dX0_breakRule_116 : decode cX0_breakRule 116 = .ok (.invokevirtual 60, 3) := by decide +kernel
theorem dX0_breakRule_119 : decode cX0_breakRule 119 = .ok (.ireturn, 1) := by decide +kernel
theorem dX0_endBan_0 : decode cX0_endBan 0 = .ok (.aload_n 0, 1) := by decide +kernel
theorem dX0_endBan_1 : decode cX0_endBan 1 = .ok (.getfield 12, 3) := by decide +kernel
theorem dX0_endBan_4 : decode cX0_endBan 4 = .ok (.iload_n 1, 1) := by decide +kernel
theorem dX0_endBan_5 : decode cX0_endBan 5 = .ok (.invokevirtual 52, 3) := by decide +kernel
theorem dX0_endBan_8 : decode cX0_endBan 8 = .ok (.ifCond .ne 6, 3) := by decide +kernel
theorem dX0_endBan_11 : decode cX0_endBan 11 = .ok (.bipush (-11), 2) := by decide +kernel
theorem dX0_endBan_13 : decode cX0_endBan 13 = .ok (.ireturn, 1) := by decide +kernel
theorem dX0_endBan_14 : decode cX0_endBan 14 = .ok (.aload_n 0, 1) := by decide +kernel
theorem dX0_endBan_15 : decode cX0_endBan 15 = .ok (.getfield 12, 3) := by decide +kernel
theorem dX0_endBan_18 : decode cX0_endBan 18 = .ok (.iconst 1, 1) := by decide +kernel
theorem dX0_endBan_19 : decode cX0_endBan 19 = .ok (.iload_n 1, 1) := by decide +kernel
theorem dX0_endBan_20 : decode cX0_endBan 20 = .ok (.invokevirtual 56, 3) := by decide +kernel
theorem dX0_endBan_23 : decode cX0_endBan 23 = .ok (.ifCond .ne 18, 3) := by decide +kernel
theorem dX0_endBan_26 : decode cX0_endBan 26 = .ok (.aload_n 0, 1) := by decide +kernel
theorem dX0_endBan_27 : decode cX0_endBan 27 = .ok (.iconst 3, 1) := by decide +kernel
theorem dX0_endBan_28 : decode cX0_endBan 28 = .ok (.aload_n 0, 1) := by decide +kernel
theorem dX0_endBan_29 : decode cX0_endBan 29 = .ok (.getfield 12, 3) := by decide +kernel
theorem dX0_endBan_32 : decode cX0_endBan 32 = .ok (.iconst 2, 1) := by decide +kernel
theorem dX0_endBan_33 : decode cX0_endBan 33 = .ok (.iload_n 1, 1) := by decide +kernel
theorem dX0_endBan_34 : decode cX0_endBan 34 = .ok (.invokevirtual 60, 3) := by decide +kernel
theorem dX0_endBan_37 : decode cX0_endBan 37 = .ok (.invokevirtual 40, 3) := by decide +kernel
theorem dX0_endBan_40 : decode cX0_endBan 40 = .ok (.ireturn, 1) := by decide +kernel
theorem dX0_endBan_41 : decode cX0_endBan 41 = .ok (.aload_n 0, 1) := by decide +kernel
theorem dX0_endBan_42 : decode cX0_endBan 42 = .ok (.getfield 12, 3) := by decide +kernel
theorem dX0_endBan_45 : decode cX0_endBan 45 = .ok (.iconst 5, 1) := by decide +kernel
theorem dX0_endBan_46 : decode cX0_endBan 46 = .ok (.iload_n 1, 1) := by decide +kernel
theorem dX0_endBan_47 : decode cX0_endBan 47 = .ok (.invokevirtual 60, 3) := by decide +kernel
theorem dX0_endBan_50 : decode cX0_endBan 50 = .ok (.istore_n 2, 1) := by decide +kernel
theorem dX0_endBan_51 : decode cX0_endBan 51 = .ok (.iload_n 2, 1) := by decide +kernel
theorem dX0_endBan_52 : decode cX0_endBan 52 = .ok (.ifCond .ne 11, 3) := by decide +kernel
theorem dX0_endBan_55 : decode cX0_endBan 55 = .ok (.aload_n 0, 1) := by decide +kernel
theorem dX0_endBan_56 : decode cX0_endBan 56 = .ok (.bipush 10, 2) := by decide +kernel
theorem dX0_endBan_58 : decode cX0_endBan 58 = .ok (.iload_n 1, 1) := by decide +kernel
theorem dX0_endBan_59 : decode cX0_endBan 59 = .ok (.invokevirtual 40, 3) := by decide +kernel
theorem dX0_endBan_62 : decode cX0_endBan 62 = .ok (.ireturn, 1) := by decide +kernel
theorem dX0_endBan_63 : decode cX0_endBan 63 = .ok (.aload_n 0, 1) := by decide +kernel
theorem dX0_endBan_64 : decode cX0_endBan 64 = .ok (.getfield 12, 3) := by decide +kernel
theorem dX0_endBan_67 : decode cX0_endBan 67 = .ok (.sipush 293, 3) := by decide +kernel
theorem dX0_endBan_70 : decode cX0_endBan 70 = .ok (.invokevirtual 36, 3) := by decide +kernel
theorem dX0_endBan_73 : decode cX0_endBan 73 = .ok (.iconst 2, 1) := by decide +kernel
theorem dX0_endBan_74 : decode cX0_endBan 74 = .ok (.if_icmp .lt 11, 3) := by decide +kernel
theorem dX0_endBan_77 : decode cX0_endBan 77 = .ok (.aload_n 0, 1) := by decide +kernel
theorem dX0_endBan_78 : decode cX0_endBan 78 = .ok (.bipush 9, 2) := by decide +kernel
theorem dX0_endBan_80 : decode cX0_endBan 80 = .ok (.iconst 2, 1) := by decide +kernel
theorem dX0_endBan_81 : decode cX0_endBan 81 = .ok (.invokevirtual 40, 3) := by decide +kernel
theorem dX0_endBan_84 : decode cX0_endBan 84 = .ok (.ireturn, 1) := by decide +kernel
theorem dX0_endBan_85 : decode cX0_endBan 85 = .ok (.aload_n 0, 1) := by decide +kernel
theorem dX0_endBan_86 : decode cX0_endBan 86 = .ok (.getfield 12, 3) := by decide +kernel
theorem dX0_endBan_89 : decode cX0_endBan 89 = .ok (.iconst 5, 1) := by decide +kernel
theorem dX0_endBan_90 : decode cX0_endBan 90 = .ok (.iload_n 1, 1) := by decide +kernel
theorem dX0_endBan_91 : decode cX0_endBan 91 = .ok (.iconst 0, 1) := by decide +kernel
theorem dX0_endBan_92 : decode cX0_endBan 92 = .ok (.invokevirtual 48, 3) := by decide +kernel
theorem dX0_endBan_95 : decode cX0_endBan 95 = .ok (.aload_n 0, 1) := by decide +kernel
theorem dX0_endBan_96 : decode cX0_endBan 96 = .ok (.getfield 12, 3) := by decide +kernel
theorem dX0_endBan_99 : decode cX0_endBan 99 = .ok (.sipush 293, 3) := by decide +kernel
theorem dX0_endBan_102 : decode cX0_endBan 102 = .ok (.aload_n 0, 1) := by decide +kernel
theorem dX0_endBan_103 : decode cX0_endBan 103 = .ok (.getfield 12, 3) := by decide +kernel
theorem dX0_endBan_106 : decode cX0_endBan 106 = .ok (.sipush 293, 3) := by decide +kernel
theorem dX0_endBan_109 : decode cX0_endBan 109 = .ok (.invokevirtual 36, 3) := by decide +kernel
theorem dX0_endBan_112 : decode cX0_endBan 112 = .ok (.iconst 1, 1) := by decide +kernel
theorem dX0_endBan_113 : decode cX0_endBan 113 = .ok (.iadd, 1) := by decide +kernel
theorem dX0_endBan_114 : decode cX0_endBan 114 = .ok (.invokevirtual 44, 3) := by decide +kernel
theorem dX0_endBan_117 : decode cX0_endBan 117 = .ok (.iload_n 2, 1) := by decide +kernel
theorem dX0_endBan_118 : decode cX0_endBan 118 = .ok (.ireturn, 1) := by decide +kernel
theorem dX0_takeGift_0 : decode cX0_takeGift 0 = .ok (.iload_n 1, 1) := by decide +kernel
theorem dX0_takeGift_1 : decode cX0_takeGift 1 = .ok (.iconst 1, 1) := by decide +kernel
theorem dX0_takeGift_2 : decode cX0_takeGift 2 = .ok (.if_icmp .lt 10, 3) := by decide +kernel
theorem dX0_takeGift_5 : decode cX0_takeGift 5 = .ok (.iload_n 1, 1) := by decide +kernel
theorem dX0_takeGift_6 : decode cX0_takeGift 6 = .ok (.sipush 500, 3) := by decide +kernel
theorem dX0_takeGift_9 : decode cX0_takeGift 9 = .ok (.if_icmp .le 6, 3) := by decide +kernel
theorem dX0_takeGift_12 : decode cX0_takeGift 12 = .ok (.bipush (-12), 2) := by decide +kernel
theorem dX0_takeGift_14 : decode cX0_takeGift 14 = .ok (.ireturn, 1) := by decide +kernel
theorem dX0_takeGift_15 : decode cX0_takeGift 15 = .ok (.aload_n 0, 1) := by decide +kernel
theorem dX0_takeGift_16 : decode cX0_takeGift 16 = .ok (.getfield 12, 3) := by decide +kernel
theorem dX0_takeGift_19 : decode cX0_takeGift 19 = .ok (.iload_n 1, 1) := by decide +kernel
theorem dX0_takeGift_20 : decode cX0_takeGift 20 = .ok (.invokevirtual 93, 3) := by decide +kernel
theorem dX0_takeGift_23 : decode cX0_takeGift 23 = .ok (.aload_n 0, 1) := by decide +kernel
theorem dX0_takeGift_24 : decode cX0_takeGift 24 = .ok (.getfield 12, 3) := by decide +kernel
theorem dX0_takeGift_27 : decode cX0_takeGift 27 = .ok (.sipush 288, 3) := by decide +kernel
theorem dX0_takeGift_30 : decode cX0_takeGift 30 = .ok (.invokevirtual 36, 3) := by decide +kernel
theorem dX0_takeGift_33 : decode cX0_takeGift 33 = .ok (.ireturn, 1) := by decide +kernel
theorem dX0_spendWeeks_0 : decode cX0_spendWeeks 0 = .ok (.iload_n 1, 1) := by decide +kernel
theorem dX0_spendWeeks_1 : decode cX0_spendWeeks 1 = .ok (.iconst 1, 1) := by decide +kernel
theorem dX0_spendWeeks_2 : decode cX0_spendWeeks 2 = .ok (.if_icmp .lt 9, 3) := by decide +kernel
theorem dX0_spendWeeks_5 : decode cX0_spendWeeks 5 = .ok (.iload_n 1, 1) := by decide +kernel
theorem dX0_spendWeeks_6 : decode cX0_spendWeeks 6 = .ok (.bipush 60, 2) := by decide +kernel
theorem dX0_spendWeeks_8 : decode cX0_spendWeeks 8 = .ok (.if_icmp .le 6, 3) := by decide +kernel
theorem dX0_spendWeeks_11 : decode cX0_spendWeeks 11 = .ok (.bipush (-12), 2) := by decide +kernel
theorem dX0_spendWeeks_13 : decode cX0_spendWeeks 13 = .ok (.ireturn, 1) := by decide +kernel
theorem dX0_spendWeeks_14 : decode cX0_spendWeeks 14 = .ok (.aload_n 0, 1) := by decide +kernel
theorem dX0_spendWeeks_15 : decode cX0_spendWeeks 15 = .ok (.getfield 12, 3) := by decide +kernel
theorem dX0_spendWeeks_18 : decode cX0_spendWeeks 18 = .ok (.sipush 290, 3) := by decide +kernel
theorem dX0_spendWeeks_21 : decode cX0_spendWeeks 21 = .ok (.invokevirtual 36, 3) := by decide +kernel
theorem dX0_spendWeeks_24 : decode cX0_spendWeeks 24 = .ok (.istore_n 2, 1) := by decide +kernel
theorem dX0_spendWeeks_25 : decode cX0_spendWeeks 25 = .ok (.aload_n 0, 1) := by decide +kernel
theorem dX0_spendWeeks_26 : decode cX0_spendWeeks 26 = .ok (.iload_n 1, 1) := by decide +kernel
theorem dX0_spendWeeks_27 : decode cX0_spendWeeks 27 = .ok (.invokevirtual 96, 3) := by decide +kernel
theorem dX0_spendWeeks_30 : decode cX0_spendWeeks 30 = .ok (.sipush 290, 3) := by decide +kernel
theorem dX0_spendWeeks_33 : decode cX0_spendWeeks 33 = .ok (.invokevirtual 36, 3) := by decide +kernel
theorem dX0_spendWeeks_36 : decode cX0_spendWeeks 36 = .ok (.iload_n 2, 1) := by decide +kernel
theorem dX0_spendWeeks_37 : decode cX0_spendWeeks 37 = .ok (.isub, 1) := by decide +kernel
theorem dX0_spendWeeks_38 : decode cX0_spendWeeks 38 = .ok (.ireturn, 1) := by decide +kernel
theorem dX0_after_0 : decode cX0_after 0 = .ok (.iconst 0, 1) := by decide +kernel
theorem dX0_after_1 : decode cX0_after 1 = .ok (.istore_n 2, 1) := by decide +kernel
theorem dX0_after_2 : decode cX0_after 2 = .ok (.iload_n 2, 1) := by decide +kernel
theorem dX0_after_3 : decode cX0_after 3 = .ok (.iload_n 1, 1) := by decide +kernel
theorem dX0_after_4 : decode cX0_after 4 = .ok (.if_icmp .ge 107, 3) := by decide +kernel
theorem dX0_after_7 : decode cX0_after 7 = .ok (.aload_n 0, 1) := by decide +kernel
theorem dX0_after_8 : decode cX0_after 8 = .ok (.aload_n 0, 1) := by decide +kernel
theorem dX0_after_9 : decode cX0_after 9 = .ok (.getfield 12, 3) := by decide +kernel
theorem dX0_after_12 : decode cX0_after 12 = .ok (.aload_n 0, 1) := by decide +kernel
theorem dX0_after_13 : decode cX0_after 13 = .ok (.getfield 12, 3) := by decide +kernel
theorem dX0_after_16 : decode cX0_after 16 = .ok (.sipush 287, 3) := by decide +kernel
theorem dX0_after_19 : decode cX0_after 19 = .ok (.invokevirtual 36, 3) := by decide +kernel
theorem dX0_after_22 : decode cX0_after 22 = .ok (.invokevirtual 83, 3) := by decide +kernel
theorem dX0_after_25 : decode cX0_after 25 = .ok (.aload_n 0, 1) := by decide +kernel
theorem dX0_after_26 : decode cX0_after 26 = .ok (.getfield 12, 3) := by decide +kernel
theorem dX0_after_29 : decode cX0_after 29 = .ok (.invokevirtual 100, 3) := by decide +kernel
theorem dX0_after_32 : decode cX0_after 32 = .ok (.invokevirtual 103, 3) := by decide +kernel
theorem dX0_after_35 : decode cX0_after 35 = .ok (.aload_n 0, 1) := by decide +kernel
theorem dX0_after_36 : decode cX0_after 36 = .ok (.invokevirtual 106, 3) := by decide +kernel
theorem dX0_after_39 : decode cX0_after 39 = .ok (.aload_n 0, 1) := by decide +kernel
theorem dX0_after_40 : decode cX0_after 40 = .ok (.getfield 12, 3) := by decide +kernel
theorem dX0_after_43 : decode cX0_after 43 = .ok (.iconst 2, 1) := by decide +kernel
theorem dX0_after_44 : decode cX0_after 44 = .ok (.bipush 8, 2) := by decide +kernel
theorem dX0_after_46 : decode cX0_after 46 = .ok (.aload_n 0, 1) := by decide +kernel
theorem dX0_after_47 : decode cX0_after 47 = .ok (.getfield 12, 3) := by decide +kernel
theorem dX0_after_50 : decode cX0_after 50 = .ok (.iconst 1, 1) := by decide +kernel
theorem dX0_after_51 : decode cX0_after 51 = .ok (.invokevirtual 67, 3) := by decide +kernel
theorem dX0_after_54 : decode cX0_after 54 = .ok (.isub, 1) := by decide +kernel
theorem dX0_after_55 : decode cX0_after 55 = .ok (.imul, 1) := by decide +kernel
theorem dX0_after_56 : decode cX0_after 56 = .ok (.invokevirtual 93, 3) := by decide +kernel
theorem dX0_after_59 : decode cX0_after 59 = .ok (.aload_n 0, 1) := by decide +kernel
theorem dX0_after_60 : decode cX0_after 60 = .ok (.getfield 12, 3) := by decide +kernel
theorem dX0_after_63 : decode cX0_after 63 = .ok (.sipush 287, 3) := by decide +kernel
theorem dX0_after_66 : decode cX0_after 66 = .ok (.aload_n 0, 1) := by decide +kernel
theorem dX0_after_67 : decode cX0_after 67 = .ok (.getfield 12, 3) := by decide +kernel
theorem dX0_after_70 : decode cX0_after 70 = .ok (.sipush 287, 3) := by decide +kernel
theorem dX0_after_73 : decode cX0_after 73 = .ok (.invokevirtual 36, 3) := by decide +kernel
theorem dX0_after_76 : decode cX0_after 76 = .ok (.iconst 1, 1) := by decide +kernel
theorem dX0_after_77 : decode cX0_after 77 = .ok (.iadd, 1) := by decide +kernel
theorem dX0_after_78 : decode cX0_after 78 = .ok (.bipush 52, 2) := by decide +kernel
theorem dX0_after_80 : decode cX0_after 80 = .ok (.irem, 1) := by decide +kernel
theorem dX0_after_81 : decode cX0_after 81 = .ok (.invokevirtual 44, 3) := by decide +kernel
theorem dX0_after_84 : decode cX0_after 84 = .ok (.aload_n 0, 1) := by decide +kernel
theorem dX0_after_85 : decode cX0_after 85 = .ok (.getfield 12, 3) := by decide +kernel
theorem dX0_after_88 : decode cX0_after 88 = .ok (.sipush 287, 3) := by decide +kernel
theorem dX0_after_91 : decode cX0_after 91 = .ok (.invokevirtual 36, 3) := by decide +kernel
theorem dX0_after_94 : decode cX0_after 94 = .ok (.ifCond .ne 11, 3) := by decide +kernel
theorem dX0_after_97 : decode cX0_after 97 = .ok (.aload_n 0, 1) := by decide +kernel
theorem dX0_after_98 : decode cX0_after 98 = .ok (.invokevirtual 109, 3) := by decide +kernel
theorem dX0_after_101 : decode cX0_after 101 = .ok (.aload_n 0, 1) := by decide +kernel
theorem dX0_after_102 : decode cX0_after 102 = .ok (.invokevirtual 112, 3) := by decide +kernel
theorem dX0_after_105 : decode cX0_after 105 = .ok (.iinc 2 1, 3) := by decide +kernel
theorem dX0_after_108 : decode cX0_after 108 = .ok (.goto (-106), 3) := by decide +kernel
theorem dX0_after_111 : decode cX0_after 111 = .ok (.aload_n 0, 1) := by decide +kernel
theorem dX0_after_112 : decode cX0_after 112 = .ok (.getfield 12, 3) := by decide +kernel
theorem dX0_after_115 : decode cX0_after 115 = .ok (.areturn, 1) := by decide +kernel
theorem dX0_perform_0 : decode cX0_perform 0 = .ok (.iload_n 1, 1) := by decide +kernel
theorem dX0_perform_1 : decode cX0_perform 1 = .ok (.tableswitch 98 0 7 #[47, 54, 60, 66, 73, 79, 86, 92], 47) := by decide +kernel
theorem dX0_perform_48 : decode cX0_perform 48 = .ok (.aload_n 0, 1) := by decide +kernel
theorem dX0_perform_49 : decode cX0_perform 49 = .ok (.iload_n 2, 1) := by decide +kernel
theorem dX0_perform_50 : decode cX0_perform 50 = .ok (.iload_n 3, 1) := by decide +kernel
theorem dX0_perform_51 : decode cX0_perform 51 = .ok (.invokevirtual 115, 3) := by decide +kernel
theorem dX0_perform_54 : decode cX0_perform 54 = .ok (.ireturn, 1) := by decide +kernel
theorem dX0_perform_55 : decode cX0_perform 55 = .ok (.aload_n 0, 1) := by decide +kernel
theorem dX0_perform_56 : decode cX0_perform 56 = .ok (.iload_n 2, 1) := by decide +kernel
theorem dX0_perform_57 : decode cX0_perform 57 = .ok (.invokevirtual 118, 3) := by decide +kernel
theorem dX0_perform_60 : decode cX0_perform 60 = .ok (.ireturn, 1) := by decide +kernel
theorem dX0_perform_61 : decode cX0_perform 61 = .ok (.aload_n 0, 1) := by decide +kernel
theorem dX0_perform_62 : decode cX0_perform 62 = .ok (.iload_n 2, 1) := by decide +kernel
theorem dX0_perform_63 : decode cX0_perform 63 = .ok (.invokevirtual 121, 3) := by decide +kernel
theorem dX0_perform_66 : decode cX0_perform 66 = .ok (.ireturn, 1) := by decide +kernel
theorem dX0_perform_67 : decode cX0_perform 67 = .ok (.aload_n 0, 1) := by decide +kernel
theorem dX0_perform_68 : decode cX0_perform 68 = .ok (.iload_n 2, 1) := by decide +kernel
theorem dX0_perform_69 : decode cX0_perform 69 = .ok (.iload_n 3, 1) := by decide +kernel
theorem dX0_perform_70 : decode cX0_perform 70 = .ok (.invokevirtual 124, 3) := by decide +kernel
theorem dX0_perform_73 : decode cX0_perform 73 = .ok (.ireturn, 1) := by decide +kernel
theorem dX0_perform_74 : decode cX0_perform 74 = .ok (.aload_n 0, 1) := by decide +kernel
theorem dX0_perform_75 : decode cX0_perform 75 = .ok (.iload_n 2, 1) := by decide +kernel
theorem dX0_perform_76 : decode cX0_perform 76 = .ok (.invokevirtual 127, 3) := by decide +kernel
theorem dX0_perform_79 : decode cX0_perform 79 = .ok (.ireturn, 1) := by decide +kernel
theorem dX0_perform_80 : decode cX0_perform 80 = .ok (.aload_n 0, 1) := by decide +kernel
theorem dX0_perform_81 : decode cX0_perform 81 = .ok (.iload_n 2, 1) := by decide +kernel
theorem dX0_perform_82 : decode cX0_perform 82 = .ok (.iload_n 3, 1) := by decide +kernel
theorem dX0_perform_83 : decode cX0_perform 83 = .ok (.invokevirtual 130, 3) := by decide +kernel
theorem dX0_perform_86 : decode cX0_perform 86 = .ok (.ireturn, 1) := by decide +kernel
theorem dX0_perform_87 : decode cX0_perform 87 = .ok (.aload_n 0, 1) := by decide +kernel
theorem dX0_perform_88 : decode cX0_perform 88 = .ok (.iload_n 2, 1) := by decide +kernel
theorem dX0_perform_89 : decode cX0_perform 89 = .ok (.invokevirtual 133, 3) := by decide +kernel
theorem dX0_perform_92 : decode cX0_perform 92 = .ok (.ireturn, 1) := by decide +kernel
theorem dX0_perform_93 : decode cX0_perform 93 = .ok (.aload_n 0, 1) := by decide +kernel
theorem dX0_perform_94 : decode cX0_perform 94 = .ok (.iload_n 2, 1) := by decide +kernel
theorem dX0_perform_95 : decode cX0_perform 95 = .ok (.invokevirtual 136, 3) := by decide +kernel
theorem dX0_perform_98 : decode cX0_perform 98 = .ok (.ireturn, 1) := by decide +kernel
theorem dX0_perform_99 : decode cX0_perform 99 = .ok (.bipush (-12), 2) := by decide +kernel
theorem dX0_perform_101 : decode cX0_perform 101 = .ok (.ireturn, 1) := by decide +kernel
theorem dX0_dropVoicesFor_0 : decode cX0_dropVoicesFor 0 = .ok (.iconst 0, 1) := by decide +kernel
theorem dX0_dropVoicesFor_1 : decode cX0_dropVoicesFor 1 = .ok (.istore_n 2, 1) := by decide +kernel
theorem dX0_dropVoicesFor_2 : decode cX0_dropVoicesFor 2 = .ok (.iload_n 2, 1) := by decide +kernel
theorem dX0_dropVoicesFor_3 : decode cX0_dropVoicesFor 3 = .ok (.bipush 16, 2) := by decide +kernel
theorem dX0_dropVoicesFor_5 : decode cX0_dropVoicesFor 5 = .ok (.if_icmp .ge 35, 3) := by decide +kernel
theorem dX0_dropVoicesFor_8 : decode cX0_dropVoicesFor 8 = .ok (.aload_n 0, 1) := by decide +kernel
theorem dX0_dropVoicesFor_9 : decode cX0_dropVoicesFor 9 = .ok (.getfield 12, 3) := by decide +kernel
theorem dX0_dropVoicesFor_12 : decode cX0_dropVoicesFor 12 = .ok (.bipush 7, 2) := by decide +kernel
theorem dX0_dropVoicesFor_14 : decode cX0_dropVoicesFor 14 = .ok (.iload_n 2, 1) := by decide +kernel
theorem dX0_dropVoicesFor_15 : decode cX0_dropVoicesFor 15 = .ok (.invokevirtual 60, 3) := by decide +kernel
theorem dX0_dropVoicesFor_18 : decode cX0_dropVoicesFor 18 = .ok (.iload_n 1, 1) := by decide +kernel
theorem dX0_dropVoicesFor_19 : decode cX0_dropVoicesFor 19 = .ok (.if_icmp .ne 15, 3) := by decide +kernel
theorem dX0_dropVoicesFor_22 : decode cX0_dropVoicesFor 22 = .ok (.aload_n 0, 1) := by decide +kernel
theorem dX0_dropVoicesFor_23 : decode cX0_dropVoicesFor 23 = .ok (.getfield 12, 3) := by decide +kernel
theorem dX0_dropVoicesFor_26 : decode cX0_dropVoicesFor 26 = .ok (.bipush 7, 2) := by decide +kernel
theorem dX0_dropVoicesFor_28 : decode cX0_dropVoicesFor 28 = .ok (.iload_n 2, 1) := by decide +kernel
theorem dX0_dropVoicesFor_29 : decode cX0_dropVoicesFor 29 = .ok (.bipush (-15), 2) := by decide +kernel
theorem dX0_dropVoicesFor_31 : decode cX0_dropVoicesFor 31 = .ok (.invokevirtual 48, 3) := by decide +kernel
theorem dX0_dropVoicesFor_34 : decode cX0_dropVoicesFor 34 = .ok (.iinc 2 1, 3) := by decide +kernel
theorem dX0_dropVoicesFor_37 : decode cX0_dropVoicesFor 37 = .ok (.goto (-35), 3) := by decide +kernel
theorem dX0_dropVoicesFor_40 : decode cX0_dropVoicesFor 40 = .ok (.return_, 1) := by decide +kernel
theorem dX0_moveOut_0 : decode cX0_moveOut 0 = .ok (.aload_n 0, 1) := by decide +kernel
theorem dX0_moveOut_1 : decode cX0_moveOut 1 = .ok (.getfield 12, 3) := by decide +kernel
theorem dX0_moveOut_4 : decode cX0_moveOut 4 = .ok (.sipush 224, 3) := by decide +kernel
theorem dX0_moveOut_7 : decode cX0_moveOut 7 = .ok (.aload_n 0, 1) := by decide +kernel
theorem dX0_moveOut_8 : decode cX0_moveOut 8 = .ok (.getfield 12, 3) := by decide +kernel
theorem dX0_moveOut_11 : decode cX0_moveOut 11 = .ok (.iconst 3, 1) := by decide +kernel
theorem dX0_moveOut_12 : decode cX0_moveOut 12 = .ok (.iload_n 1, 1) := by decide +kernel
theorem dX0_moveOut_13 : decode cX0_moveOut 13 = .ok (.invokevirtual 60, 3) := by decide +kernel
theorem dX0_moveOut_16 : decode cX0_moveOut 16 = .ok (.iadd, 1) := by decide +kernel
theorem dX0_moveOut_17 : decode cX0_moveOut 17 = .ok (.bipush (-15), 2) := by decide +kernel
theorem dX0_moveOut_19 : decode cX0_moveOut 19 = .ok (.invokevirtual 44, 3) := by decide +kernel
theorem dX0_moveOut_22 : decode cX0_moveOut 22 = .ok (.aload_n 0, 1) := by decide +kernel
theorem dX0_moveOut_23 : decode cX0_moveOut 23 = .ok (.getfield 12, 3) := by decide +kernel
theorem dX0_moveOut_26 : decode cX0_moveOut 26 = .ok (.iconst 2, 1) := by decide +kernel
theorem dX0_moveOut_27 : decode cX0_moveOut 27 = .ok (.iload_n 1, 1) := by decide +kernel
theorem dX0_moveOut_28 : decode cX0_moveOut 28 = .ok (.iload_n 2, 1) := by decide +kernel
theorem dX0_moveOut_29 : decode cX0_moveOut 29 = .ok (.invokevirtual 48, 3) := by decide +kernel
theorem dX0_moveOut_32 : decode cX0_moveOut 32 = .ok (.aload_n 0, 1) := by decide +kernel
theorem dX0_moveOut_33 : decode cX0_moveOut 33 = .ok (.getfield 12, 3) := by decide +kernel
theorem dX0_moveOut_36 : decode cX0_moveOut 36 = .ok (.iconst 3, 1) := by decide +kernel
theorem dX0_moveOut_37 : decode cX0_moveOut 37 = .ok (.iload_n 1, 1) := by decide +kernel
theorem dX0_moveOut_38 : decode cX0_moveOut 38 = .ok (.bipush (-15), 2) := by decide +kernel
theorem dX0_moveOut_40 : decode cX0_moveOut 40 = .ok (.invokevirtual 48, 3) := by decide +kernel
theorem dX0_moveOut_43 : decode cX0_moveOut 43 = .ok (.aload_n 0, 1) := by decide +kernel
theorem dX0_moveOut_44 : decode cX0_moveOut 44 = .ok (.getfield 12, 3) := by decide +kernel
theorem dX0_moveOut_47 : decode cX0_moveOut 47 = .ok (.iconst 5, 1) := by decide +kernel
theorem dX0_moveOut_48 : decode cX0_moveOut 48 = .ok (.iload_n 1, 1) := by decide +kernel
theorem dX0_moveOut_49 : decode cX0_moveOut 49 = .ok (.iconst 0, 1) := by decide +kernel
theorem dX0_moveOut_50 : decode cX0_moveOut 50 = .ok (.invokevirtual 48, 3) := by decide +kernel
theorem dX0_moveOut_53 : decode cX0_moveOut 53 = .ok (.aload_n 0, 1) := by decide +kernel
theorem dX0_moveOut_54 : decode cX0_moveOut 54 = .ok (.getfield 12, 3) := by decide +kernel
theorem dX0_moveOut_57 : decode cX0_moveOut 57 = .ok (.bipush 7, 2) := by decide +kernel
theorem dX0_moveOut_59 : decode cX0_moveOut 59 = .ok (.iload_n 1, 1) := by decide +kernel
theorem dX0_moveOut_60 : decode cX0_moveOut 60 = .ok (.bipush (-15), 2) := by decide +kernel
theorem dX0_moveOut_62 : decode cX0_moveOut 62 = .ok (.invokevirtual 48, 3) := by decide +kernel
theorem dX0_moveOut_65 : decode cX0_moveOut 65 = .ok (.return_, 1) := by decide +kernel
theorem dX0_payFeast_0 : decode cX0_payFeast 0 = .ok (.iload_n 1, 1) := by decide +kernel
theorem dX0_payFeast_1 : decode cX0_payFeast 1 = .ok (.ifCond .eq 7, 3) := by decide +kernel
theorem dX0_payFeast_4 : decode cX0_payFeast 4 = .ok (.iload_n 2, 1) := by decide +kernel
theorem dX0_payFeast_5 : decode cX0_payFeast 5 = .ok (.ifCond .ne 4, 3) := by decide +kernel
theorem dX0_payFeast_8 : decode cX0_payFeast 8 = .ok (.return_, 1) := by decide +kernel
theorem dX0_payFeast_9 : decode cX0_payFeast 9 = .ok (.iload_n 1, 1) := by decide +kernel
theorem dX0_payFeast_10 : decode cX0_payFeast 10 = .ok (.aload_n 0, 1) := by decide +kernel
theorem dX0_payFeast_11 : decode cX0_payFeast 11 = .ok (.getfield 12, 3) := by decide +kernel
theorem dX0_payFeast_14 : decode cX0_payFeast 14 = .ok (.sipush 288, 3) := by decide +kernel
theorem dX0_payFeast_17 : decode cX0_payFeast 17 = .ok (.invokevirtual 36, 3) := by decide +kernel
theorem dX0_payFeast_20 : decode cX0_payFeast 20 = .ok (.iload_n 2, 1) := by decide +kernel
theorem dX0_payFeast_21 : decode cX0_payFeast 21 = .ok (.idiv, 1) := by decide +kernel
theorem dX0_payFeast_22 : decode cX0_payFeast 22 = .ok (.invokestatic 139, 3) := by decide +kernel
theorem dX0_payFeast_25 : decode cX0_payFeast 25 = .ok (.istore_n 3, 1) := by decide +kernel
theorem dX0_payFeast_26 : decode cX0_payFeast 26 = .ok (.iconst 0, 1) := by decide +kernel
theorem dX0_payFeast_27 : decode cX0_payFeast 27 = .ok (.istore 4, 2) := by decide +kernel
theorem dX0_payFeast_29 : decode cX0_payFeast 29 = .ok (.iload 4, 2) := by decide +kernel
theorem dX0_payFeast_31 : decode cX0_payFeast 31 = .ok (.bipush 16, 2) := by decide +kernel
theorem dX0_payFeast_33 : decode cX0_payFeast 33 = .ok (.if_icmp .ge 45, 3) := by decide +kernel
theorem dX0_payFeast_36 : decode cX0_payFeast 36 = .ok (.aload_n 0, 1) := by decide +kernel
theorem dX0_payFeast_37 : decode cX0_payFeast 37 = .ok (.getfield 12, 3) := by decide +kernel
theorem dX0_payFeast_40 : decode cX0_payFeast 40 = .ok (.iload 4, 2) := by decide +kernel
theorem dX0_payFeast_42 : decode cX0_payFeast 42 = .ok (.invokevirtual 144, 3) := by decide +kernel
theorem dX0_payFeast_45 : decode cX0_payFeast 45 = .ok (.ifCond .eq 27, 3) := by decide +kernel
theorem dX0_payFeast_48 : decode cX0_payFeast 48 = .ok (.aload_n 0, 1) := by decide +kernel
theorem dX0_payFeast_49 : decode cX0_payFeast 49 = .ok (.getfield 12, 3) := by decide +kernel
theorem dX0_payFeast_52 : decode cX0_payFeast 52 = .ok (.bipush 6, 2) := by decide +kernel
theorem dX0_payFeast_54 : decode cX0_payFeast 54 = .ok (.iload 4, 2) := by decide +kernel
theorem dX0_payFeast_56 : decode cX0_payFeast 56 = .ok (.aload_n 0, 1) := by decide +kernel
theorem dX0_payFeast_57 : decode cX0_payFeast 57 = .ok (.getfield 12, 3) := by decide +kernel
theorem dX0_payFeast_60 : decode cX0_payFeast 60 = .ok (.bipush 6, 2) := by decide +kernel
theorem dX0_payFeast_62 : decode cX0_payFeast 62 = .ok (.iload 4, 2) := by decide +kernel
theorem dX0_payFeast_64 : decode cX0_payFeast 64 = .ok (.invokevirtual 60, 3) := by decide +kernel
theorem dX0_payFeast_67 : decode cX0_payFeast 67 = .ok (.iload_n 3, 1) := by decide +kernel
theorem dX0_payFeast_68 : decode cX0_payFeast 68 = .ok (.iadd, 1) := by decide +kernel
theorem dX0_payFeast_69 : decode cX0_payFeast 69 = .ok (.invokevirtual 48, 3) := by decide +kernel
theorem dX0_payFeast_72 : decode cX0_payFeast 72 = .ok (.iinc 4 1, 3) := by decide +kernel
theorem dX0_payFeast_75 : decode cX0_payFeast 75 = .ok (.goto (-46), 3) := by decide +kernel
theorem dX0_payFeast_78 : decode cX0_payFeast 78 = .ok (.aload_n 0, 1) := by decide +kernel
theorem dX0_payFeast_79 : decode cX0_payFeast 79 = .ok (.getfield 12, 3) := by decide +kernel
theorem dX0_payFeast_82 : decode cX0_payFeast 82 = .ok (.sipush 288, 3) := by decide +kernel
theorem dX0_payFeast_85 : decode cX0_payFeast 85 = .ok (.aload_n 0, 1) := by decide +kernel
theorem dX0_payFeast_86 : decode cX0_payFeast 86 = .ok (.getfield 12, 3) := by decide +kernel
theorem dX0_payFeast_89 : decode cX0_payFeast 89 = .ok (.sipush 288, 3) := by decide +kernel
theorem dX0_payFeast_92 : decode cX0_payFeast 92 = .ok (.invokevirtual 36, 3) := by decide +kernel
theorem dX0_payFeast_95 : decode cX0_payFeast 95 = .ok (.iload_n 3, 1) := by decide +kernel
theorem dX0_payFeast_96 : decode cX0_payFeast 96 = .ok (.iload_n 2, 1) := by decide +kernel
theorem dX0_payFeast_97 : decode cX0_payFeast 97 = .ok (.imul, 1) := by decide +kernel
theorem dX0_payFeast_98 : decode cX0_payFeast 98 = .ok (.isub, 1) := by decide +kernel
theorem dX0_payFeast_99 : decode cX0_payFeast 99 = .ok (.invokevirtual 44, 3) := by decide +kernel
theorem dX0_payFeast_102 : decode cX0_payFeast 102 = .ok (.aload_n 0, 1) := by decide +kernel
theorem dX0_payFeast_103 : decode cX0_payFeast 103 = .ok (.getfield 12, 3) := by decide +kernel
theorem dX0_payFeast_106 : decode cX0_payFeast 106 = .ok (.sipush 290, 3) := by decide +kernel
theorem dX0_payFeast_109 : decode cX0_payFeast 109 = .ok (.aload_n 0, 1) := by decide +kernel
theorem dX0_payFeast_110 : decode cX0_payFeast 110 = .ok (.getfield 12, 3) := by decide +kernel
theorem dX0_payFeast_113 : decode cX0_payFeast 113 = .ok (.sipush 290, 3) := by decide +kernel
theorem dX0_payFeast_116 : decode cX0_payFeast 116 = .ok (.invokevirtual 36, 3) := by decide +kernel
theorem dX0_payFeast_119 : decode cX0_payFeast 119 = .ok (.iload_n 3, 1) := by decide +kernel
theorem dX0_payFeast_120 : decode cX0_payFeast 120 = .ok (.iload_n 2, 1) := by decide +kernel
theorem dX0_payFeast_121 : decode cX0_payFeast 121 = .ok (.imul, 1) := by decide +kernel
theorem dX0_payFeast_122 : decode cX0_payFeast 122 = .ok (.iadd, 1) := by decide +kernel
theorem dX0_payFeast_123 : decode cX0_payFeast 123 = .ok (.invokevirtual 44, 3) := by decide +kernel
theorem dX0_payFeast_126 : decode cX0_payFeast 126 = .ok (.return_, 1) := by decide +kernel
theorem dX0_shortenBans_0 : decode cX0_shortenBans 0 = .ok (.iconst 0, 1) := by decide +kernel
theorem dX0_shortenBans_1 : decode cX0_shortenBans 1 = .ok (.istore_n 1, 1) := by decide +kernel
theorem dX0_shortenBans_2 : decode cX0_shortenBans 2 = .ok (.iload_n 1, 1) := by decide +kernel
theorem dX0_shortenBans_3 : decode cX0_shortenBans 3 = .ok (.bipush 16, 2) := by decide +kernel
theorem dX0_shortenBans_5 : decode cX0_shortenBans 5 = .ok (.if_icmp .ge 41, 3) := by decide +kernel
theorem dX0_shortenBans_8 : decode cX0_shortenBans 8 = .ok (.aload_n 0, 1) := by decide +kernel
theorem dX0_shortenBans_9 : decode cX0_shortenBans 9 = .ok (.getfield 12, 3) := by decide +kernel
theorem dX0_shortenBans_12 : decode cX0_shortenBans 12 = .ok (.iconst 5, 1) := by decide +kernel
theorem dX0_shortenBans_13 : decode cX0_shortenBans 13 = .ok (.iload_n 1, 1) := by decide +kernel
theorem dX0_shortenBans_14 : decode cX0_shortenBans 14 = .ok (.invokevirtual 60, 3) := by decide +kernel
theorem dX0_shortenBans_17 : decode cX0_shortenBans 17 = .ok (.ifCond .le 23, 3) := by decide +kernel
theorem dX0_shortenBans_20 : decode cX0_shortenBans 20 = .ok (.aload_n 0, 1) := by decide +kernel
theorem dX0_shortenBans_21 : decode cX0_shortenBans 21 = .ok (.getfield 12, 3) := by decide +kernel
theorem dX0_shortenBans_24 : decode cX0_shortenBans 24 = .ok (.iconst 5, 1) := by decide +kernel
theorem dX0_shortenBans_25 : decode cX0_shortenBans 25 = .ok (.iload_n 1, 1) := by decide +kernel
theorem dX0_shortenBans_26 : decode cX0_shortenBans 26 = .ok (.aload_n 0, 1) := by decide +kernel
theorem dX0_shortenBans_27 : decode cX0_shortenBans 27 = .ok (.getfield 12, 3) := by decide +kernel
theorem dX0_shortenBans_30 : decode cX0_shortenBans 30 = .ok (.iconst 5, 1) := by decide +kernel
theorem dX0_shortenBans_31 : decode cX0_shortenBans 31 = .ok (.iload_n 1, 1) := by decide +kernel
theorem dX0_shortenBans_32 : decode cX0_shortenBans 32 = .ok (.invokevirtual 60, 3) := by decide +kernel
theorem dX0_shortenBans_35 : decode cX0_shortenBans 35 = .ok (.iconst 1, 1) := by decide +kernel
theorem dX0_shortenBans_36 : decode cX0_shortenBans 36 = .ok (.isub, 1) := by decide +kernel
theorem dX0_shortenBans_37 : decode cX0_shortenBans 37 = .ok (.invokevirtual 48, 3) := by decide +kernel
theorem dX0_shortenBans_40 : decode cX0_shortenBans 40 = .ok (.iinc 1 1, 3) := by decide +kernel
theorem dX0_shortenBans_43 : decode cX0_shortenBans 43 = .ok (.goto (-41), 3) := by decide +kernel
theorem dX0_shortenBans_46 : decode cX0_shortenBans 46 = .ok (.return_, 1) := by decide +kernel
theorem dX0_beginYear_0 : decode cX0_beginYear 0 = .ok (.aload_n 0, 1) := by decide +kernel
theorem dX0_beginYear_1 : decode cX0_beginYear 1 = .ok (.getfield 12, 3) := by decide +kernel
theorem dX0_beginYear_4 : decode cX0_beginYear 4 = .ok (.sipush 286, 3) := by decide +kernel
theorem dX0_beginYear_7 : decode cX0_beginYear 7 = .ok (.aload_n 0, 1) := by decide +kernel
theorem dX0_beginYear_8 : decode cX0_beginYear 8 = .ok (.getfield 12, 3) := by decide +kernel
theorem dX0_beginYear_11 : decode cX0_beginYear 11 = .ok (.sipush 286, 3) := by decide +kernel
theorem dX0_beginYear_14 : decode cX0_beginYear 14 = .ok (.invokevirtual 36, 3) := by decide +kernel
theorem dX0_beginYear_17 : decode cX0_beginYear 17 = .ok (.iconst 1, 1) := by decide +kernel
theorem dX0_beginYear_18 : decode cX0_beginYear 18 = .ok (.iadd, 1) := by decide +kernel
theorem dX0_beginYear_19 : decode cX0_beginYear 19 = .ok (.invokevirtual 44, 3) := by decide +kernel
theorem dX0_beginYear_22 : decode cX0_beginYear 22 = .ok (.aload_n 0, 1) := by decide +kernel
theorem dX0_beginYear_23 : decode cX0_beginYear 23 = .ok (.getfield 12, 3) := by decide +kernel
theorem dX0_beginYear_26 : decode cX0_beginYear 26 = .ok (.sipush 293, 3) := by decide +kernel
theorem dX0_beginYear_29 : decode cX0_beginYear 29 = .ok (.iconst 0, 1) := by decide +kernel
theorem dX0_beginYear_30 : decode cX0_beginYear 30 = .ok (.invokevirtual 44, 3) := by decide +kernel
theorem dX0_beginYear_33 : decode cX0_beginYear 33 = .ok (.iconst 0, 1) := by decide +kernel
theorem dX0_beginYear_34 : decode cX0_beginYear 34 = .ok (.istore_n 1, 1) := by decide +kernel
theorem dX0_beginYear_35 : decode cX0_beginYear 35 = .ok (.iload_n 1, 1) := by decide +kernel
theorem dX0_beginYear_36 : decode cX0_beginYear 36 = .ok (.bipush 16, 2) := by decide +kernel
theorem dX0_beginYear_38 : decode cX0_beginYear 38 = .ok (.if_icmp .ge 79, 3) := by decide +kernel
theorem dX0_beginYear_41 : decode cX0_beginYear 41 = .ok (.aload_n 0, 1) := by decide +kernel
theorem dX0_beginYear_42 : decode cX0_beginYear 42 = .ok (.getfield 12, 3) := by decide +kernel
theorem dX0_beginYear_45 : decode cX0_beginYear 45 = .ok (.iconst 1, 1) := by decide +kernel
theorem dX0_beginYear_46 : decode cX0_beginYear 46 = .ok (.iload_n 1, 1) := by decide +kernel
theorem dX0_beginYear_47 : decode cX0_beginYear 47 = .ok (.invokevirtual 56, 3) := by decide +kernel
theorem dX0_beginYear_50 : decode cX0_beginYear 50 = .ok (.istore_n 2, 1) := by decide +kernel
theorem dX0_beginYear_51 : decode cX0_beginYear 51 = .ok (.iload_n 2, 1) := by decide +kernel
theorem dX0_beginYear_52 : decode cX0_beginYear 52 = .ok (.ifCond .ne 15, 3) := by decide +kernel
theorem dX0_beginYear_55 : decode cX0_beginYear 55 = .ok (.aload_n 0, 1) := by decide +kernel
theorem dX0_beginYear_56 : decode cX0_beginYear 56 = .ok (.getfield 12, 3) := by decide +kernel
theorem dX0_beginYear_59 : decode cX0_beginYear 59 = .ok (.iconst 0, 1) := by decide +kernel
theorem dX0_beginYear_60 : decode cX0_beginYear 60 = .ok (.iload_n 1, 1) := by decide +kernel
theorem dX0_beginYear_61 : decode cX0_beginYear 61 = .ok (.invokevirtual 56, 3) := by decide +kernel
theorem dX0_beginYear_64 : decode cX0_beginYear 64 = .ok (.ifCond .eq 23, 3) := by decide +kernel
theorem dX0_beginYear_67 : decode cX0_beginYear 67 = .ok (.aload_n 0, 1) := by decide +kernel
theorem dX0_beginYear_68 : decode cX0_beginYear 68 = .ok (.getfield 12, 3) := by decide +kernel
theorem dX0_beginYear_71 : decode cX0_beginYear 71 = .ok (.iconst 0, 1) := by decide +kernel
theorem dX0_beginYear_72 : decode cX0_beginYear 72 = .ok (.iload_n 1, 1) := by decide +kernel
theorem dX0_beginYear_73 : decode cX0_beginYear 73 = .ok (.aload_n 0, 1) := by decide +kernel
theorem dX0_beginYear_74 : decode cX0_beginYear 74 = .ok (.getfield 12, 3) := by decide +kernel
theorem dX0_beginYear_77 : decode cX0_beginYear 77 = .ok (.iconst 0, 1) := by decide +kernel
theorem dX0_beginYear_78 : decode cX0_beginYear 78 = .ok (.iload_n 1, 1) := by decide +kernel
theorem dX0_beginYear_79 : decode cX0_beginYear 79 = .ok (.invokevirtual 60, 3) := by decide +kernel
theorem dX0_beginYear_82 : decode cX0_beginYear 82 = .ok (.iconst 1, 1) := by decide +kernel
theorem dX0_beginYear_83 : decode cX0_beginYear 83 = .ok (.iadd, 1) := by decide +kernel
theorem dX0_beginYear_84 : decode cX0_beginYear 84 = .ok (.invokevirtual 48, 3) := by decide +kernel
theorem dX0_beginYear_87 : decode cX0_beginYear 87 = .ok (.iload_n 2, 1) := by decide +kernel
theorem dX0_beginYear_88 : decode cX0_beginYear 88 = .ok (.ifCond .eq 23, 3) := by decide +kernel
theorem dX0_beginYear_91 : decode cX0_beginYear 91 = .ok (.aload_n 0, 1) := by decide +kernel
theorem dX0_beginYear_92 : decode cX0_beginYear 92 = .ok (.getfield 12, 3) := by decide +kernel
theorem dX0_beginYear_95 : decode cX0_beginYear 95 = .ok (.iconst 4, 1) := by decide +kernel
theorem dX0_beginYear_96 : decode cX0_beginYear 96 = .ok (.iload_n 1, 1) := by decide +kernel
theorem dX0_beginYear_97 : decode cX0_beginYear 97 = .ok (.aload_n 0, 1) := by decide +kernel
theorem dX0_beginYear_98 : decode cX0_beginYear 98 = .ok (.getfield 12, 3) := by decide +kernel
theorem dX0_beginYear_101 : decode cX0_beginYear 101 = .ok (.iconst 4, 1) := by decide +kernel
theorem dX0_beginYear_102 : decode cX0_beginYear 102 = .ok (.iload_n 1, 1) := by decide +kernel
theorem dX0_beginYear_103 : decode cX0_beginYear 103 = .ok (.invokevirtual 60, 3) := by decide +kernel
theorem dX0_beginYear_106 : decode cX0_beginYear 106 = .ok (.iconst 1, 1) := by decide +kernel
theorem dX0_beginYear_107 : decode cX0_beginYear 107 = .ok (.iadd, 1) := by decide +kernel
theorem dX0_beginYear_108 : decode cX0_beginYear 108 = .ok (.invokevirtual 48, 3) := by decide +kernel
theorem dX0_beginYear_111 : decode cX0_beginYear 111 = .ok (.iinc 1 1, 3) := by decide +kernel
theorem dX0_beginYear_114 : decode cX0_beginYear 114 = .ok (.goto (-79), 3) := by decide +kernel
theorem dX0_beginYear_117 : decode cX0_beginYear 117 = .ok (.return_, 1) := by decide +kernel
theorem dX0_buyGowns_0 : decode cX0_buyGowns 0 = .ok (.iconst 0, 1) := by decide +kernel
theorem dX0_buyGowns_1 : decode cX0_buyGowns 1 = .ok (.istore_n 1, 1) := by decide +kernel
theorem dX0_buyGowns_2 : decode cX0_buyGowns 2 = .ok (.iload_n 1, 1) := by decide +kernel
theorem dX0_buyGowns_3 : decode cX0_buyGowns 3 = .ok (.bipush 8, 2) := by decide +kernel
theorem dX0_buyGowns_5 : decode cX0_buyGowns 5 = .ok (.if_icmp .ge 150, 3) := by decide +kernel
theorem dX0_buyGowns_8 : decode cX0_buyGowns 8 = .ok (.aload_n 0, 1) := by decide +kernel
theorem dX0_buyGowns_9 : decode cX0_buyGowns 9 = .ok (.getfield 21, 3) := by decide +kernel
theorem dX0_buyGowns_12 : decode cX0_buyGowns 12 = .ok (.aload_n 0, 1) := by decide +kernel
theorem dX0_buyGowns_13 : decode cX0_buyGowns 13 = .ok (.getfield 12, 3) := by decide +kernel
theorem dX0_buyGowns_16 : decode cX0_buyGowns 16 = .ok (.iconst 0, 1) := by decide +kernel
theorem dX0_buyGowns_17 : decode cX0_buyGowns 17 = .ok (.invokevirtual 147, 3) := by decide +kernel
theorem dX0_buyGowns_20 : decode cX0_buyGowns 20 = .ok (.istore_n 2, 1) := by decide +kernel
theorem dX0_buyGowns_21 : decode cX0_buyGowns 21 = .ok (.aload_n 0, 1) := by decide +kernel
theorem dX0_buyGowns_22 : decode cX0_buyGowns 22 = .ok (.getfield 12, 3) := by decide +kernel
theorem dX0_buyGowns_25 : decode cX0_buyGowns 25 = .ok (.iload_n 2, 1) := by decide +kernel
theorem dX0_buyGowns_26 : decode cX0_buyGowns 26 = .ok (.invokevirtual 52, 3) := by decide +kernel
theorem dX0_buyGowns_29 : decode cX0_buyGowns 29 = .ok (.ifCond .eq 20, 3) := by decide +kernel
theorem dX0_buyGowns_32 : decode cX0_buyGowns 32 = .ok (.aload_n 0, 1) := by decide +kernel
theorem dX0_buyGowns_33 : decode cX0_buyGowns 33 = .ok (.getfield 12, 3) := by decide +kernel
theorem dX0_buyGowns_36 : decode cX0_buyGowns 36 = .ok (.iconst 4, 1) := by decide +kernel
theorem dX0_buyGowns_37 : decode cX0_buyGowns 37 = .ok (.iload_n 2, 1) := by decide +kernel
theorem dX0_buyGowns_38 : decode cX0_buyGowns 38 = .ok (.invokevirtual 60, 3) := by decide +kernel
theorem dX0_buyGowns_41 : decode cX0_buyGowns 41 = .ok (.iconst 2, 1) := by decide +kernel
theorem dX0_buyGowns_42 : decode cX0_buyGowns 42 = .ok (.if_icmp .lt 7, 3) := by decide +kernel
theorem dX0_buyGowns_45 : decode cX0_buyGowns 45 = .ok (.iconst 1, 1) := by decide +kernel
theorem dX0_buyGowns_46 : decode cX0_buyGowns 46 = .ok (.goto 4, 3) := by decide +kernel
theorem dX0_buyGowns_49 : decode cX0_buyGowns 49 = .ok (.iconst 0, 1) := by decide +kernel
theorem dX0_buyGowns_50 : decode cX0_buyGowns 50 = .ok (.istore_n 3, 1) := by decide +kernel
theorem dX0_buyGowns_51 : decode cX0_buyGowns 51 = .ok (.iload_n 3, 1) := by decide +kernel
theorem dX0_buyGowns_52 : decode cX0_buyGowns 52 = .ok (.ifCond .eq 18, 3) := by decide +kernel
theorem dX0_buyGowns_55 : decode cX0_buyGowns 55 = .ok (.aload_n 0, 1) := by decide +kernel
theorem dX0_buyGowns_56 : decode cX0_buyGowns 56 = .ok (.getfield 12, 3) := by decide +kernel
theorem dX0_buyGowns_59 : decode cX0_buyGowns 59 = .ok (.sipush 288, 3) := by decide +kernel
theorem dX0_buyGowns_62 : decode cX0_buyGowns 62 = .ok (.invokevirtual 36, 3) := by decide +kernel
theorem dX0_buyGowns_65 : decode cX0_buyGowns 65 = .ok (.bipush 8, 2) := by decide +kernel
theorem dX0_buyGowns_67 : decode cX0_buyGowns 67 = .ok (.if_icmp .ge 4, 3) := by decide +kernel
theorem dX0_buyGowns_70 : decode cX0_buyGowns 70 = .ok (.return_, 1) := by decide +kernel
theorem dX0_buyGowns_71 : decode cX0_buyGowns 71 = .ok (.aload_n 0, 1) := by decide +kernel
theorem dX0_buyGowns_72 : decode cX0_buyGowns 72 = .ok (.getfield 12, 3) := by decide +kernel
theorem dX0_buyGowns_75 : decode cX0_buyGowns 75 = .ok (.iconst 4, 1) := by decide +kernel
theorem dX0_buyGowns_76 : decode cX0_buyGowns 76 = .ok (.iload_n 2, 1) := by decide +kernel
theorem dX0_buyGowns_77 : decode cX0_buyGowns 77 = .ok (.iconst 0, 1) := by decide +kernel
theorem dX0_buyGowns_78 : decode cX0_buyGowns 78 = .ok (.invokevirtual 48, 3) := by decide +kernel
theorem dX0_buyGowns_81 : decode cX0_buyGowns 81 = .ok (.aload_n 0, 1) := by decide +kernel
theorem dX0_buyGowns_82 : decode cX0_buyGowns 82 = .ok (.getfield 12, 3) := by decide +kernel
theorem dX0_buyGowns_85 : decode cX0_buyGowns 85 = .ok (.sipush 288, 3) := by decide +kernel
theorem dX0_buyGowns_88 : decode cX0_buyGowns 88 = .ok (.aload_n 0, 1) := by decide +kernel
theorem dX0_buyGowns_89 : decode cX0_buyGowns 89 = .ok (.getfield 12, 3) := by decide +kernel
theorem dX0_buyGowns_92 : decode cX0_buyGowns 92 = .ok (.sipush 288, 3) := by decide +kernel
theorem dX0_buyGowns_95 : decode cX0_buyGowns 95 = .ok (.invokevirtual 36, 3) := by decide +kernel
theorem dX0_buyGowns_98 : decode cX0_buyGowns 98 = .ok (.bipush 8, 2) := by decide +kernel
theorem dX0_buyGowns_100 : decode cX0_buyGowns 100 = .ok (.isub, 1) := by decide +kernel
theorem dX0_buyGowns_101 : decode cX0_buyGowns 101 = .ok (.invokevirtual 44, 3) := by decide +kernel
theorem dX0_buyGowns_104 : decode cX0_buyGowns 104 = .ok (.aload_n 0, 1) := by decide +kernel
theorem dX0_buyGowns_105 : decode cX0_buyGowns 105 = .ok (.getfield 12, 3) := by decide +kernel
theorem dX0_buyGowns_108 : decode cX0_buyGowns 108 = .ok (.sipush 291, 3) := by decide +kernel
theorem dX0_buyGowns_111 : decode cX0_buyGowns 111 = .ok (.aload_n 0, 1) := by decide +kernel
theorem dX0_buyGowns_112 : decode cX0_buyGowns 112 = .ok (.getfield 12, 3) := by decide +kernel
theorem dX0_buyGowns_115 : decode cX0_buyGowns 115 = .ok (.sipush 291, 3) := by decide +kernel
theorem dX0_buyGowns_118 : decode cX0_buyGowns 118 = .ok (.invokevirtual 36, 3) := by decide +kernel
theorem dX0_buyGowns_121 : decode cX0_buyGowns 121 = .ok (.bipush 8, 2) := by decide +kernel
theorem dX0_buyGowns_123 : decode cX0_buyGowns 123 = .ok (.iadd, 1) := by decide +kernel
theorem dX0_buyGowns_124 : decode cX0_buyGowns 124 = .ok (.invokevirtual 44, 3) := by decide +kernel
theorem dX0_buyGowns_127 : decode cX0_buyGowns 127 = .ok (.aload_n 0, 1) := by decide +kernel
theorem dX0_buyGowns_128 : decode cX0_buyGowns 128 = .ok (.getfield 12, 3) := by decide +kernel
theorem dX0_buyGowns_131 : decode cX0_buyGowns 131 = .ok (.sipush 292, 3) := by decide +kernel
theorem dX0_buyGowns_134 : decode cX0_buyGowns 134 = .ok (.aload_n 0, 1) := by decide +kernel
theorem dX0_buyGowns_135 : decode cX0_buyGowns 135 = .ok (.getfield 12, 3) := by decide +kernel
theorem dX0_buyGowns_138 : decode cX0_buyGowns 138 = .ok (.sipush 292, 3) := by decide +kernel
theorem dX0_buyGowns_141 : decode cX0_buyGowns 141 = .ok (.invokevirtual 36, 3) := by decide +kernel
theorem dX0_buyGowns_144 : decode cX0_buyGowns 144 = .ok (.iconst 1, 1) := by decide +kernel
theorem dX0_buyGowns_145 : decode cX0_buyGowns 145 = .ok (.iadd, 1) := by decide +kernel
theorem dX0_buyGowns_146 : decode cX0_buyGowns 146 = .ok (.invokevirtual 44, 3) := by decide +kernel
theorem dX0_buyGowns_149 : decode cX0_buyGowns 149 = .ok (.iinc 1 1, 3) := by decide +kernel
theorem dX0_buyGowns_152 : decode cX0_buyGowns 152 = .ok (.goto (-150), 3) := by decide +kernel
theorem dX0_buyGowns_155 : decode cX0_buyGowns 155 = .ok (.return_, 1) := by decide +kernel
theorem dX1_init_0 : decode cX1_init 0 = .ok (.aload_n 0, 1) := by decide +kernel
theorem dX1_init_1 : decode cX1_init 1 = .ok (.invokespecial 3, 3) := by decide +kernel
theorem dX1_init_4 : decode cX1_init 4 = .ok (.aload_n 0, 1) := by decide +kernel
theorem dX1_init_5 : decode cX1_init 5 = .ok (.sipush 2352, 3) := by decide +kernel
theorem dX1_init_8 : decode cX1_init 8 = .ok (.newarray .int, 2) := by decide +kernel
theorem dX1_init_10 : decode cX1_init 10 = .ok (.putfield 9, 3) := by decide +kernel
theorem dX1_init_13 : decode cX1_init 13 = .ok (.aload_n 0, 1) := by decide +kernel
theorem dX1_init_14 : decode cX1_init 14 = .ok (.iconst 0, 1) := by decide +kernel
theorem dX1_init_15 : decode cX1_init 15 = .ok (.putfield 15, 3) := by decide +kernel
theorem dX1_init_18 : decode cX1_init 18 = .ok (.aload_n 0, 1) := by decide +kernel
theorem dX1_init_19 : decode cX1_init 19 = .ok (.iconst 0, 1) := by decide +kernel
theorem dX1_init_20 : decode cX1_init 20 = .ok (.putfield 19, 3) := by decide +kernel
theorem dX1_init_23 : decode cX1_init 23 = .ok (.return_, 1) := by decide +kernel
theorem dX1_size_0 : decode cX1_size 0 = .ok (.aload_n 0, 1) := by decide +kernel
theorem dX1_size_1 : decode cX1_size 1 = .ok (.getfield 19, 3) := by decide +kernel
theorem dX1_size_4 : decode cX1_size 4 = .ok (.ireturn, 1) := by decide +kernel
theorem dX1_keep_0 : decode cX1_keep 0 = .ok (.aload_n 1, 1) := by decide +kernel
theorem dX1_keep_1 : decode cX1_keep 1 = .ok (.aload_n 0, 1) := by decide +kernel
theorem dX1_keep_2 : decode cX1_keep 2 = .ok (.getfield 9, 3) := by decide +kernel
theorem dX1_keep_5 : decode cX1_keep 5 = .ok (.aload_n 0, 1) := by decide +kernel
theorem dX1_keep_6 : decode cX1_keep 6 = .ok (.getfield 15, 3) := by decide +kernel
theorem dX1_keep_9 : decode cX1_keep 9 = .ok (.sipush 294, 3) := by decide +kernel
theorem dX1_keep_12 : decode cX1_keep 12 = .ok (.imul, 1) := by decide +kernel
theorem dX1_keep_13 : decode cX1_keep 13 = .ok (.invokevirtual 22, 3) := by decide +kernel
theorem dX1_keep_16 : decode cX1_keep 16 = .ok (.aload_n 0, 1) := by decide +kernel
theorem dX1_keep_17 : decode cX1_keep 17 = .ok (.aload_n 0, 1) := by decide +kernel
theorem dX1_keep_18 : decode cX1_keep 18 = .ok (.getfield 15, 3) := by decide +kernel
theorem dX1_keep_21 : decode cX1_keep 21 = .ok (.iconst 1, 1) := by decide +kernel
theorem dX1_keep_22 : decode cX1_keep 22 = .ok (.iadd, 1) := by decide +kernel
theorem dX1_keep_23 : decode cX1_keep 23 = .ok (.bipush 8, 2) := by decide +kernel
theorem dX1_keep_25 : decode cX1_keep 25 = .ok (.irem, 1) := by decide +kernel
theorem dX1_keep_26 : decode cX1_keep 26 = .ok (.putfield 15, 3) := by decide +kernel
theorem dX1_keep_29 : decode cX1_keep 29 = .ok (.aload_n 0, 1) := by decide +kernel
theorem dX1_keep_30 : decode cX1_keep 30 = .ok (.aload_n 0, 1) := by decide +kernel
theorem dX1_keep_31 : decode cX1_keep 31 = .ok (.getfield 19, 3) := by decide +kernel
theorem dX1_keep_34 : decode cX1_keep 34 = .ok (.iconst 1, 1) := by decide +kernel
theorem dX1_keep_35 : decode cX1_keep 35 = .ok (.iadd, 1) := by decide +kernel
theorem dX1_keep_36 : decode cX1_keep 36 = .ok (.bipush 8, 2) := by decide +kernel
theorem dX1_keep_38 : decode cX1_keep 38 = .ok (.invokestatic 28, 3) := by decide +kernel
theorem dX1_keep_41 : decode cX1_keep 41 = .ok (.putfield 19, 3) := by decide +kernel
theorem dX1_keep_44 : decode cX1_keep 44 = .ok (.return_, 1) := by decide +kernel
theorem dX1_giveBack_0 : decode cX1_giveBack 0 = .ok (.aload_n 0, 1) := by decide +kernel
theorem dX1_giveBack_1 : decode cX1_giveBack 1 = .ok (.getfield 19, 3) := by decide +kernel
theorem dX1_giveBack_4 : decode cX1_giveBack 4 = .ok (.ifCond .ne 5, 3) := by decide +kernel
theorem dX1_giveBack_7 : decode cX1_giveBack 7 = .ok (.iconst 0, 1) := by decide +kernel
theorem dX1_giveBack_8 : decode cX1_giveBack 8 = .ok (.ireturn, 1) := by decide +kernel
theorem dX1_giveBack_9 : decode cX1_giveBack 9 = .ok (.aload_n 0, 1) := by decide +kernel
theorem dX1_giveBack_10 : decode cX1_giveBack 10 = .ok (.dup, 1) := by decide +kernel
theorem dX1_giveBack_11 : decode cX1_giveBack 11 = .ok (.getfield 19, 3) := by decide +kernel
theorem dX1_giveBack_14 : decode cX1_giveBack 14 = .ok (.iconst 1, 1) := by decide +kernel
theorem dX1_giveBack_15 : decode cX1_giveBack 15 = .ok (.isub, 1) := by decide +kernel
theorem dX1_giveBack_16 : decode cX1_giveBack 16 = .ok (.putfield 19, 3) := by decide +kernel
theorem dX1_giveBack_19 : decode cX1_giveBack 19 = .ok (.aload_n 0, 1) := by decide +kernel
theorem dX1_giveBack_20 : decode cX1_giveBack 20 = .ok (.aload_n 0, 1) := by decide +kernel
theorem dX1_giveBack_21 : decode cX1_giveBack 21 = .ok (.getfield 15, 3) := by decide +kernel
theorem dX1_giveBack_24 : decode cX1_giveBack 24 = .ok (.bipush 8, 2) := by decide +kernel
theorem dX1_giveBack_26 : decode cX1_giveBack 26 = .ok (.iadd, 1) := by decide +kernel
theorem dX1_giveBack_27 : decode cX1_giveBack 27 = .ok (.iconst 1, 1) := by decide +kernel
theorem dX1_giveBack_28 : decode cX1_giveBack 28 = .ok (.isub, 1) := by decide +kernel
theorem dX1_giveBack_29 : decode cX1_giveBack 29 = .ok (.bipush 8, 2) := by decide +kernel
theorem dX1_giveBack_31 : decode cX1_giveBack 31 = .ok (.irem, 1) := by decide +kernel
theorem dX1_giveBack_32 : decode cX1_giveBack 32 = .ok (.putfield 15, 3) := by decide +kernel
theorem dX1_giveBack_35 : decode cX1_giveBack 35 = .ok (.aload_n 1, 1) := by decide +kernel
theorem dX1_giveBack_36 : decode cX1_giveBack 36 = .ok (.aload_n 0, 1) := by decide +kernel
theorem dX1_giveBack_37 : decode cX1_giveBack 37 = .ok (.getfield 9, 3) := by decide +kernel
theorem dX1_giveBack_40 : decode cX1_giveBack 40 = .ok (.aload_n 0, 1) := by decide +kernel
theorem dX1_giveBack_41 : decode cX1_giveBack 41 = .ok (.getfield 15, 3) := by decide +kernel
theorem dX1_giveBack_44 : decode cX1_giveBack 44 = .ok (.sipush 294, 3) := by decide +kernel
theorem dX1_giveBack_47 : decode cX1_giveBack 47 = .ok (.imul, 1) := by decide +kernel
theorem dX1_giveBack_48 : decode cX1_giveBack 48 = .ok (.invokevirtual 34, 3) := by decide +kernel
theorem dX1_giveBack_51 : decode cX1_giveBack 51 = .ok (.iconst 1, 1) := by decide +kernel
theorem dX1_giveBack_52 : decode cX1_giveBack 52 = .ok (.ireturn, 1) := by decide +kernel
theorem dX1_forget_0 : decode cX1_forget 0 = .ok (.aload_n 0, 1) := by decide +kernel
theorem dX1_forget_1 : decode cX1_forget 1 = .ok (.iconst 0, 1) := by decide +kernel
theorem dX1_forget_2 : decode cX1_forget 2 = .ok (.putfield 19, 3) := by decide +kernel
theorem dX1_forget_5 : decode cX1_forget 5 = .ok (.return_, 1) := by decide +kernel
theorem dX2_init_0 : decode cX2_init 0 = .ok (.aload_n 0, 1) := by decide +kernel
theorem dX2_init_1 : decode cX2_init 1 = .ok (.invokespecial 3, 3) := by decide +kernel
theorem dX2_init_4 : decode cX2_init 4 = .ok (.aload_n 0, 1) := by decide +kernel
theorem dX2_init_5 : decode cX2_init 5 = .ok (.bipush 10, 2) := by decide +kernel
theorem dX2_init_7 : decode cX2_init 7 = .ok (.newarray .int, 2) := by decide +kernel
theorem dX2_init_9 : decode cX2_init 9 = .ok (.putfield 9, 3) := by decide +kernel
theorem dX2_init_12 : decode cX2_init 12 = .ok (.aload_n 0, 1) := by decide +kernel
theorem dX2_init_13 : decode cX2_init 13 = .ok (.bipush 10, 2) := by decide +kernel
theorem dX2_init_15 : decode cX2_init 15 = .ok (.newarray .int, 2) := by decide +kernel
theorem dX2_init_17 : decode cX2_init 17 = .ok (.putfield 15, 3) := by decide +kernel
theorem dX2_init_20 : decode cX2_init 20 = .ok (.aload_n 0, 1) := by decide +kernel
theorem dX2_init_21 : decode cX2_init 21 = .ok (.bipush 10, 2) := by decide +kernel
theorem dX2_init_23 : decode cX2_init 23 = .ok (.newarray .int, 2) := by decide +kernel
theorem dX2_init_25 : decode cX2_init 25 = .ok (.putfield 18, 3) := by decide +kernel
theorem dX2_init_28 : decode cX2_init 28 = .ok (.aload_n 0, 1) := by decide +kernel
theorem dX2_init_29 : decode cX2_init 29 = .ok (.iconst 0, 1) := by decide +kernel
theorem dX2_init_30 : decode cX2_init 30 = .ok (.putfield 21, 3) := by decide +kernel
theorem dX2_init_33 : decode cX2_init 33 = .ok (.aload_n 0, 1) := by decide +kernel
theorem dX2_init_34 : decode cX2_init 34 = .ok (.iconst 0, 1) := by decide +kernel
theorem dX2_init_35 : decode cX2_init 35 = .ok (.putfield 25, 3) := by decide +kernel
theorem dX2_init_38 : decode cX2_init 38 = .ok (.aload_n 0, 1) := by decide +kernel
theorem dX2_init_39 : decode cX2_init 39 = .ok (.iconst 0, 1) := by decide +kernel
theorem dX2_init_40 : decode cX2_init 40 = .ok (.putfield 28, 3) := by decide +kernel
theorem dX2_init_43 : decode cX2_init 43 = .ok (.return_, 1) := by decide +kernel
theorem dX2_size_0 : decode cX2_size 0 = .ok (.aload_n 0, 1) := by decide +kernel
theorem dX2_size_1 : decode cX2_size 1 = .ok (.getfield 21, 3) := by decide +kernel
theorem dX2_size_4 : decode cX2_size 4 = .ok (.ireturn, 1) := by decide +kernel
theorem dX2_kindOf_0 : decode cX2_kindOf 0 = .ok (.iload_n 1, 1) := by decide +kernel
theorem dX2_kindOf_1 : decode cX2_kindOf 1 = .ok (.ifCond .lt 21, 3) := by decide +kernel
theorem dX2_kindOf_4 : decode cX2_kindOf 4 = .ok (.iload_n 1, 1) := by decide +kernel
theorem dX2_kindOf_5 : decode cX2_kindOf 5 = .ok (.aload_n 0, 1) := by decide +kernel
theorem dX2_kindOf_6 : decode cX2_kindOf 6 = .ok (.getfield 9, 3) := by decide +kernel
theorem dX2_kindOf_9 : decode cX2_kindOf 9 = .ok (.arraylength, 1) := by decide +kernel
theorem dX2_kindOf_10 : decode cX2_kindOf 10 = .ok (.if_icmp .ge 12, 3) := by decide +kernel
theorem dX2_kindOf_13 : decode cX2_kindOf 13 = .ok (.aload_n 0, 1) := by decide +kernel
theorem dX2_kindOf_14 : decode cX2_kindOf 14 = .ok (.getfield 9, 3) := by decide +kernel
theorem dX2_kindOf_17 : decode cX2_kindOf 17 = .ok (.iload_n 1, 1) := by decide +kernel
theorem dX2_kindOf_18 : decode cX2_kindOf 18 = .ok (.iaload, 1) := by decide +kernel
theorem dX2_kindOf_19 : decode cX2_kindOf 19 = .ok (.goto 4, 3) := by decide +kernel
theorem dX2_kindOf_22 : decode cX2_kindOf 22 = .ok (.iconst (-1), 1) := by decide +kernel
theorem dX2_kindOf_23 : decode cX2_kindOf 23 = .ok (.ireturn, 1) := by decide +kernel
theorem dX2_firstOf_0 : decode cX2_firstOf 0 = .ok (.iload_n 1, 1) := by decide +kernel
theorem dX2_firstOf_1 : decode cX2_firstOf 1 = .ok (.ifCond .lt 21, 3) := by decide +kernel
theorem dX2_firstOf_4 : decode cX2_firstOf 4 = .ok (.iload_n 1, 1) := by decide +kernel
theorem dX2_firstOf_5 : decode cX2_firstOf 5 = .ok (.aload_n 0, 1) := by decide +kernel
theorem dX2_firstOf_6 : decode cX2_firstOf 6 = .ok (.getfield 15, 3) := by decide +kernel
theorem dX2_firstOf_9 : decode cX2_firstOf 9 = .ok (.arraylength, 1) := by decide +kernel
theorem dX2_firstOf_10 : decode cX2_firstOf 10 = .ok (.if_icmp .ge 12, 3) := by decide +kernel
theorem dX2_firstOf_13 : decode cX2_firstOf 13 = .ok (.aload_n 0, 1) := by decide +kernel
theorem dX2_firstOf_14 : decode cX2_firstOf 14 = .ok (.getfield 15, 3) := by decide +kernel
theorem dX2_firstOf_17 : decode cX2_firstOf 17 = .ok (.iload_n 1, 1) := by decide +kernel
theorem dX2_firstOf_18 : decode cX2_firstOf 18 = .ok (.iaload, 1) := by decide +kernel
theorem dX2_firstOf_19 : decode cX2_firstOf 19 = .ok (.goto 4, 3) := by decide +kernel
theorem dX2_firstOf_22 : decode cX2_firstOf 22 = .ok (.iconst 0, 1) := by decide +kernel
theorem dX2_firstOf_23 : decode cX2_firstOf 23 = .ok (.ireturn, 1) := by decide +kernel
theorem dX2_secondOf_0 : decode cX2_secondOf 0 = .ok (.iload_n 1, 1) := by decide +kernel
theorem dX2_secondOf_1 : decode cX2_secondOf 1 = .ok (.ifCond .lt 21, 3) := by decide +kernel
theorem dX2_secondOf_4 : decode cX2_secondOf 4 = .ok (.iload_n 1, 1) := by decide +kernel
theorem dX2_secondOf_5 : decode cX2_secondOf 5 = .ok (.aload_n 0, 1) := by decide +kernel
theorem dX2_secondOf_6 : decode cX2_secondOf 6 = .ok (.getfield 18, 3) := by decide +kernel
theorem dX2_secondOf_9 : decode cX2_secondOf 9 = .ok (.arraylength, 1) := by decide +kernel
theorem dX2_secondOf_10 : decode cX2_secondOf 10 = .ok (.if_icmp .ge 12, 3) := by decide +kernel
theorem dX2_secondOf_13 : decode cX2_secondOf 13 = .ok (.aload_n 0, 1) := by decide +kernel
theorem dX2_secondOf_14 : decode cX2_secondOf 14 = .ok (.getfield 18, 3) := by decide +kernel
theorem dX2_secondOf_17 : decode cX2_secondOf 17 = .ok (.iload_n 1, 1) := by decide +kernel
theorem dX2_secondOf_18 : decode cX2_secondOf 18 = .ok (.iaload, 1) := by decide +kernel
theorem dX2_secondOf_19 : decode cX2_secondOf 19 = .ok (.goto 4, 3) := by decide +kernel
theorem dX2_secondOf_22 : decode cX2_secondOf 22 = .ok (.iconst 0, 1) := by decide +kernel
theorem dX2_secondOf_23 : decode cX2_secondOf 23 = .ok (.ireturn, 1) := by decide +kernel
theorem dX2_read_0 : decode cX2_read 0 = .ok (.aload_n 0, 1) := by decide +kernel
theorem dX2_read_1 : decode cX2_read 1 = .ok (.iconst 0, 1) := by decide +kernel
theorem dX2_read_2 : decode cX2_read 2 = .ok (.putfield 21, 3) := by decide +kernel
theorem dX2_read_5 : decode cX2_read 5 = .ok (.aload_n 0, 1) := by decide +kernel
theorem dX2_read_6 : decode cX2_read 6 = .ok (.iconst 0, 1) := by decide +kernel
theorem dX2_read_7 : decode cX2_read 7 = .ok (.putfield 25, 3) := by decide +kernel
theorem dX2_read_10 : decode cX2_read 10 = .ok (.iconst 0, 1) := by decide +kernel
theorem dX2_read_11 : decode cX2_read 11 = .ok (.istore_n 2, 1) := by decide +kernel
theorem dX2_read_12 : decode cX2_read 12 = .ok (.iload_n 2, 1) := by decide +kernel
theorem dX2_read_13 : decode cX2_read 13 = .ok (.bipush 10, 2) := by decide +kernel
theorem dX2_read_15 : decode cX2_read 15 = .ok (.if_icmp .ge 50, 3) := by decide +kernel
theorem dX2_read_18 : decode cX2_read 18 = .ok (.aload_n 0, 1) := by decide +kernel
theorem dX2_read_19 : decode cX2_read 19 = .ok (.aload_n 1, 1) := by decide +kernel
theorem dX2_read_20 : decode cX2_read 20 = .ok (.invokevirtual 31, 3) := by decide +kernel
theorem dX2_read_23 : decode cX2_read 23 = .ok (.ifCond .ne 8, 3) := by decide +kernel
theorem dX2_read_26 : decode cX2_read 26 = .ok (.aload_n 0, 1) := by decide +kernel
theorem dX2_read_27 : decode cX2_read 27 = .ok (.getfield 25, 3) := by decide +kernel
theorem dX2_read_30 : decode cX2_read 30 = .ok (.ireturn, 1) := by decide +kernel
theorem dX2_read_31 : decode cX2_read 31 = .ok (.aload_n 0, 1) := by decide +kernel
theorem dX2_read_32 : decode cX2_read 32 = .ok (.getfield 25, 3) := by decide +kernel
theorem dX2_read_35 : decode cX2_read 35 = .ok (.aload_n 1, 1) := by decide +kernel
theorem dX2_read_36 : decode cX2_read 36 = .ok (.invokevirtual 35, 3) := by decide +kernel
theorem dX2_read_39 : decode cX2_read 39 = .ok (.if_icmp .lt 5, 3) := by decide +kernel
theorem dX2_read_42 : decode cX2_read 42 = .ok (.iconst (-1), 1) := by decide +kernel
theorem dX2_read_43 : decode cX2_read 43 = .ok (.ireturn, 1) := by decide +kernel
theorem dX2_read_44 : decode cX2_read 44 = .ok (.aload_n 0, 1) := by decide +kernel
theorem dX2_read_45 : decode cX2_read 45 = .ok (.aload_n 1, 1) := by decide +kernel
theorem dX2_read_46 : decode cX2_read 46 = .ok (.bipush 59, 2) := by decide +kernel
theorem dX2_read_48 : decode cX2_read 48 = .ok (.invokevirtual 41, 3) := by decide +kernel
theorem dX2_read_51 : decode cX2_read 51 = .ok (.ifCond .ne 8, 3) := by decide +kernel
theorem dX2_read_54 : decode cX2_read 54 = .ok (.aload_n 0, 1) := by decide +kernel
theorem dX2_read_55 : decode cX2_read 55 = .ok (.getfield 25, 3) := by decide +kernel
theorem dX2_read_58 : decode cX2_read 58 = .ok (.ireturn, 1) := by decide +kernel
theorem dX2_read_59 : decode cX2_read 59 = .ok (.iinc 2 1, 3) := by decide +kernel
theorem dX2_read_62 : decode cX2_read 62 = .ok (.goto (-50), 3) := by decide +kernel
theorem dX2_read_65 : decode cX2_read 65 = .ok (.aload_n 0, 1) := by decide +kernel
theorem dX2_read_66 : decode cX2_read 66 = .ok (.getfield 25, 3) := by decide +kernel
theorem dX2_read_69 : decode cX2_read 69 = .ok (.ireturn, 1) := by decide +kernel
theorem dX2_readOrder_0 : decode cX2_readOrder 0 = .ok (.aload_n 1, 1) := by decide +kernel
theorem dX2_readOrder_1 : decode cX2_readOrder 1 = .ok (.aload_n 0, 1) := by decide +kernel
theorem dX2_readOrder_2 : decode cX2_readOrder 2 = .ok (.getfield 25, 3) := by decide +kernel
theorem dX2_readOrder_5 : decode cX2_readOrder 5 = .ok (.invokevirtual 45, 3) := by decide +kernel
theorem dX2_readOrder_8 : decode cX2_readOrder 8 = .ok (.invokestatic 49, 3) := by decide +kernel
theorem dX2_readOrder_11 : decode cX2_readOrder 11 = .ok (.istore_n 2, 1) := by decide +kernel
theorem dX2_readOrder_12 : decode cX2_readOrder 12 = .ok (.iload_n 2, 1) := by decide +kernel
theorem dX2_readOrder_13 : decode cX2_readOrder 13 = .ok (.ifCond .lt 27, 3) := by decide +kernel
theorem dX2_readOrder_16 : decode cX2_readOrder 16 = .ok (.aload_n 0, 1) := by decide +kernel
theorem dX2_readOrder_17 : decode cX2_readOrder 17 = .ok (.aload_n 1, 1) := by decide +kernel
theorem dX2_readOrder_18 : decode cX2_readOrder 18 = .ok (.iload_n 2, 1) := by decide +kernel
theorem dX2_readOrder_19 : decode cX2_readOrder 19 = .ok (.invokestatic 52, 3) := by decide +kernel
theorem dX2_readOrder_22 : decode cX2_readOrder 22 = .ok (.invokevirtual 56, 3) := by decide +kernel
theorem dX2_readOrder_25 : decode cX2_readOrder 25 = .ok (.ifCond .eq 15, 3) := by decide +kernel
theorem dX2_readOrder_28 : decode cX2_readOrder 28 = .ok (.aload_n 0, 1) := by decide +kernel
theorem dX2_readOrder_29 : decode cX2_readOrder 29 = .ok (.aload_n 1, 1) := by decide +kernel
theorem dX2_readOrder_30 : decode cX2_readOrder 30 = .ok (.iload_n 2, 1) := by decide +kernel
theorem dX2_readOrder_31 : decode cX2_readOrder 31 = .ok (.invokestatic 60, 3) := by decide +kernel
theorem dX2_readOrder_34 : decode cX2_readOrder 34 = .ok (.invokevirtual 63, 3) := by decide +kernel
theorem dX2_readOrder_37 : decode cX2_readOrder 37 = .ok (.ifCond .ne 5, 3) := by decide +kernel
theorem dX2_readOrder_40 : decode cX2_readOrder 40 = .ok (.iconst 0, 1) := by decide +kernel
theorem dX2_readOrder_41 : decode cX2_readOrder 41 = .ok (.ireturn, 1) := by decide +kernel
theorem dX2_readOrder_42 : decode cX2_readOrder 42 = .ok (.aload_n 0, 1) := by decide +kernel
theorem dX2_readOrder_43 : decode cX2_readOrder 43 = .ok (.getfield 28, 3) := by decide +kernel
theorem dX2_readOrder_46 : decode cX2_readOrder 46 = .ok (.istore_n 3, 1) := by decide +kernel
theorem dX2_readOrder_47 : decode cX2_readOrder 47 = .ok (.iconst 0, 1) := by decide +kernel
theorem dX2_readOrder_48 : decode cX2_readOrder 48 = .ok (.istore 4, 2) := by decide +kernel
theorem dX2_readOrder_50 : decode cX2_readOrder 50 = .ok (.iload_n 2, 1) := by decide +kernel
theorem dX2_readOrder_51 : decode cX2_readOrder 51 = .ok (.invokestatic 66, 3) := by decide +kernel
theorem dX2_readOrder_54 : decode cX2_readOrder 54 = .ok (.ifCond .le 33, 3) := by decide +kernel
theorem dX2_readOrder_57 : decode cX2_readOrder 57 = .ok (.aload_n 0, 1) := by decide +kernel
theorem dX2_readOrder_58 : decode cX2_readOrder 58 = .ok (.aload_n 1, 1) := by decide +kernel
theorem dX2_readOrder_59 : decode cX2_readOrder 59 = .ok (.bipush 32, 2) := by decide +kernel
theorem dX2_readOrder_61 : decode cX2_readOrder 61 = .ok (.invokevirtual 41, 3) := by decide +kernel
theorem dX2_readOrder_64 : decode cX2_readOrder 64 = .ok (.ifCond .eq 15, 3) := by decide +kernel
theorem dX2_readOrder_67 : decode cX2_readOrder 67 = .ok (.aload_n 0, 1) := by decide +kernel
theorem dX2_readOrder_68 : decode cX2_readOrder 68 = .ok (.aload_n 1, 1) := by decide +kernel
theorem dX2_readOrder_69 : decode cX2_readOrder 69 = .ok (.iload_n 2, 1) := by decide +kernel
theorem dX2_readOrder_70 : decode cX2_readOrder 70 = .ok (.invokestatic 66, 3) := by decide +kernel
theorem dX2_readOrder_73 : decode cX2_readOrder 73 = .ok (.invokevirtual 63, 3) := by decide +kernel
theorem dX2_readOrder_76 : decode cX2_readOrder 76 = .ok (.ifCond .ne 5, 3) := by decide +kernel
theorem dX2_readOrder_79 : decode cX2_readOrder 79 = .ok (.iconst 0, 1) := by decide +kernel
theorem dX2_readOrder_80 : decode cX2_readOrder 80 = .ok (.ireturn, 1) := by decide +kernel
theorem dX2_readOrder_81 : decode cX2_readOrder 81 = .ok (.aload_n 0, 1) := by decide +kernel
theorem dX2_readOrder_82 : decode cX2_readOrder 82 = .ok (.getfield 28, 3) := by decide +kernel
theorem dX2_readOrder_85 : decode cX2_readOrder 85 = .ok (.istore 4, 2) := by decide +kernel
theorem dX2_readOrder_87 : decode cX2_readOrder 87 = .ok (.aload_n 0, 1) := by decide +kernel
theorem dX2_readOrder_88 : decode cX2_readOrder 88 = .ok (.iload_n 2, 1) := by decide +kernel
theorem dX2_readOrder_89 : decode cX2_readOrder 89 = .ok (.iload_n 3, 1) := by decide +kernel
theorem dX2_readOrder_90 : decode cX2_readOrder 90 = .ok (.iload 4, 2) := by decide +kernel
theorem dX2_readOrder_92 : decode cX2_readOrder 92 = .ok (.invokevirtual 69, 3) := by decide +kernel
theorem dX2_readOrder_95 : decode cX2_readOrder 95 = .ok (.iconst 1, 1) := by decide +kernel
theorem dX2_readOrder_96 : decode cX2_readOrder 96 = .ok (.ireturn, 1) := by decide +kernel
theorem dX2_keep_0 : decode cX2_keep 0 = .ok (.aload_n 0, 1) := by decide +kernel
theorem dX2_keep_1 : decode cX2_keep 1 = .ok (.getfield 21, 3) := by decide +kernel
theorem dX2_keep_4 : decode cX2_keep 4 = .ok (.ifCond .lt 79, 3) := by decide +kernel
theorem dX2_keep_7 : decode cX2_keep 7 = .ok (.aload_n 0, 1) := by decide +kernel
theorem dX2_keep_8 : decode cX2_keep 8 = .ok (.getfield 21, 3) := by decide +kernel
theorem dX2_keep_11 : decode cX2_keep 11 = .ok (.aload_n 0, 1) := by decide +kernel
theorem dX2_keep_12 : decode cX2_keep 12 = .ok (.getfield 9, 3) := by decide +kernel
theorem dX2_keep_15 : decode cX2_keep 15 = .ok (.arraylength, 1) := by decide +kernel
theorem dX2_keep_16 : decode cX2_keep 16 = .ok (.if_icmp .ge 67, 3) := by decide +kernel
theorem dX2_keep_19 : decode cX2_keep 19 = .ok (.aload_n 0, 1) := by decide +kernel
theorem dX2_keep_20 : decode cX2_keep 20 = .ok (.getfield 21, 3) := by decide +kernel
theorem dX2_keep_23 : decode cX2_keep 23 = .ok (.aload_n 0, 1) := by decide +kernel
theorem dX2_keep_24 : decode cX2_keep 24 = .ok (.getfield 15, 3) := by decide +kernel
theorem dX2_keep_27 : decode cX2_keep 27 = .ok (.arraylength, 1) := by decide +kernel
theorem dX2_keep_28 : decode cX2_keep 28 = .ok (.if_icmp .ge 55, 3) := by decide +kernel
theorem dX2_keep_31 : decode cX2_keep 31 = .ok (.aload_n 0, 1) := by decide +kernel
theorem dX2_keep_32 : decode cX2_keep 32 = .ok (.getfield 21, 3) := by decide +kernel
theorem dX2_keep_35 : decode cX2_keep 35 = .ok (.aload_n 0, 1) := by decide +kernel
theorem dX2_keep_36 : decode cX2_keep 36 = .ok (.getfield 18, 3) := by decide +kernel
theorem dX2_keep_39 : decode cX2_keep 39 = .ok (.arraylength, 1) := by decide +kernel
theorem dX2_keep_40 : decode cX2_keep 40 = .ok (.if_icmp .ge 43, 3) := by decide +kernel
theorem dX2_keep_43 : decode cX2_keep 43 = .ok (.aload_n 0, 1) := by decide +kernel
theorem dX2_keep_44 : decode cX2_keep 44 = .ok (.getfield 9, 3) := by decide +kernel
theorem dX2_keep_47 : decode cX2_keep 47 = .ok (.aload_n 0, 1) := by decide +kernel
theorem dX2_keep_48 : decode cX2_keep 48 = .ok (.getfield 21, 3) := by decide +kernel
theorem dX2_keep_51 : decode cX2_keep 51 = .ok (.iload_n 1, 1) := by decide +kernel
theorem dX2_keep_52 : decode cX2_keep 52 = .ok (.iastore, 1) := by decide +kernel
theorem dX2_keep_53 : decode cX2_keep 53 = .ok (.aload_n 0, 1) := by decide +kernel
theorem dX2_keep_54 : decode cX2_keep 54 = .ok (.getfield 15, 3) := by decide +kernel
theorem dX2_keep_57 : decode cX2_keep 57 = .ok (.aload_n 0, 1) := by decide +kernel
theorem dX2_keep_58 : decode cX2_keep 58 = .ok (.getfield 21, 3) := by decide +kernel
theorem dX2_keep_61 : decode cX2_keep 61 = .ok (.iload_n 2, 1) := by decide +kernel
theorem dX2_keep_62 : decode cX2_keep 62 = .ok (.iastore, 1) := by decide +kernel
theorem dX2_keep_63 : decode cX2_keep 63 = .ok (.aload_n 0, 1) := by decide +kernel
theorem dX2_keep_64 : decode cX2_keep 64 = .ok (.getfield 18, 3) := by decide +kernel
theorem dX2_keep_67 : decode cX2_keep 67 = .ok (.aload_n 0, 1) := by decide +kernel
theorem dX2_keep_68 : decode cX2_keep 68 = .ok (.getfield 21, 3) := by decide +kernel
theorem dX2_keep_71 : decode cX2_keep 71 = .ok (.iload_n 3, 1) := by decide +kernel
theorem dX2_keep_72 : decode cX2_keep 72 = .ok (.iastore, 1) := by decide +kernel
theorem dX2_keep_73 : decode cX2_keep 73 = .ok (.aload_n 0, 1) := by decide +kernel
theorem dX2_keep_74 : decode cX2_keep 74 = .ok (.dup, 1) := by decide +kernel
theorem dX2_keep_75 : decode cX2_keep 75 = .ok (.getfield 21, 3) := by decide +kernel
theorem dX2_keep_78 : decode cX2_keep 78 = .ok (.iconst 1, 1) := by decide +kernel
theorem dX2_keep_79 : decode cX2_keep 79 = .ok (.iadd, 1) := by decide +kernel
theorem dX2_keep_80 : decode cX2_keep 80 = .ok (.putfield 21, 3) := by decide +kernel
theorem dX2_keep_83 : decode cX2_keep 83 = .ok (.return_, 1) := by decide +kernel
theorem dX2_readWord_0 : decode cX2_readWord 0 = .ok (.iconst 0, 1) := by decide +kernel
theorem dX2_readWord_1 : decode cX2_readWord 1 = .ok (.istore_n 3, 1) := by decide +kernel
theorem dX2_readWord_2 : decode cX2_readWord 2 = .ok (.iload_n 3, 1) := by decide +kernel
theorem dX2_readWord_3 : decode cX2_readWord 3 = .ok (.aload_n 2, 1) := by decide +kernel
theorem dX2_readWord_4 : decode cX2_readWord 4 = .ok (.invokevirtual 73, 3) := by decide +kernel
theorem dX2_readWord_7 : decode cX2_readWord 7 = .ok (.if_icmp .ge 24, 3) := by decide +kernel
theorem dX2_readWord_10 : decode cX2_readWord 10 = .ok (.aload_n 0, 1) := by decide +kernel
theorem dX2_readWord_11 : decode cX2_readWord 11 = .ok (.aload_n 1, 1) := by decide +kernel
theorem dX2_readWord_12 : decode cX2_readWord 12 = .ok (.aload_n 2, 1) := by decide +kernel
theorem dX2_readWord_13 : decode cX2_readWord 13 = .ok (.iload_n 3, 1) := by decide +kernel
theorem dX2_readWord_14 : decode cX2_readWord 14 = .ok (.invokevirtual 78, 3) := by decide +kernel
theorem dX2_readWord_17 : decode cX2_readWord 17 = .ok (.invokevirtual 41, 3) := by decide +kernel
theorem dX2_readWord_20 : decode cX2_readWord 20 = .ok (.ifCond .ne 5, 3) := by decide +kernel
theorem dX2_readWord_23 : decode cX2_readWord 23 = .ok (.iconst 0, 1) := by decide +kernel
theorem dX2_readWord_24 : decode cX2_readWord 24 = .ok (.ireturn, 1) := by decide +kernel
theorem dX2_readWord_25 : decode cX2_readWord 25 = .ok (.iinc 3 1, 3) := by decide +kernel
theorem dX2_readWord_28 : decode cX2_readWord 28 = .ok (.goto (-26), 3) := by decide +kernel
theorem dX2_readWord_31 : decode cX2_readWord 31 = .ok (.iconst 1, 1) := by decide +kernel
theorem dX2_readWord_32 : decode cX2_readWord 32 = .ok (.ireturn, 1) := by decide +kernel
theorem dX2_readSign_0 : decode cX2_readSign 0 = .ok (.aload_n 1, 1) := by decide +kernel
theorem dX2_readSign_1 : decode cX2_readSign 1 = .ok (.aload_n 0, 1) := by decide +kernel
theorem dX2_readSign_2 : decode cX2_readSign 2 = .ok (.getfield 25, 3) := by decide +kernel
theorem dX2_readSign_5 : decode cX2_readSign 5 = .ok (.invokevirtual 45, 3) := by decide +kernel
theorem dX2_readSign_8 : decode cX2_readSign 8 = .ok (.iload_n 2, 1) := by decide +kernel
theorem dX2_readSign_9 : decode cX2_readSign 9 = .ok (.if_icmp .eq 5, 3) := by decide +kernel
theorem dX2_readSign_12 : decode cX2_readSign 12 = .ok (.iconst 0, 1) := by decide +kernel
theorem dX2_readSign_13 : decode cX2_readSign 13 = .ok (.ireturn, 1) := by decide +kernel
theorem dX2_readSign_14 : decode cX2_readSign 14 = .ok (.aload_n 0, 1) := by decide +kernel
theorem dX2_readSign_15 : decode cX2_readSign 15 = .ok (.dup, 1) := by decide +kernel
theorem dX2_readSign_16 : decode cX2_readSign 16 = .ok (.getfield 25, 3) := by decide +kernel
theorem dX2_readSign_19 : decode cX2_readSign 19 = .ok (.iconst 1, 1) := by decide +kernel
theorem dX2_readSign_20 : decode cX2_readSign 20 = .ok (.iadd, 1) := by decide +kernel
theorem dX2_readSign_21 : decode cX2_readSign 21 = .ok (.putfield 25, 3) := by decide +kernel
theorem dX2_readSign_24 : decode cX2_readSign 24 = .ok (.iconst 1, 1) := by decide +kernel
theorem dX2_readSign_25 : decode cX2_readSign 25 = .ok (.ireturn, 1) := by decide +kernel
theorem dX2_readNumber_0 : decode cX2_readNumber 0 = .ok (.iconst 0, 1) := by decide +kernel
theorem dX2_readNumber_1 : decode cX2_readNumber 1 = .ok (.istore_n 3, 1) := by decide +kernel
theorem dX2_readNumber_2 : decode cX2_readNumber 2 = .ok (.iconst 0, 1) := by decide +kernel
theorem dX2_readNumber_3 : decode cX2_readNumber 3 = .ok (.istore 4, 2) := by decide +kernel
theorem dX2_readNumber_5 : decode cX2_readNumber 5 = .ok (.iload 4, 2) := by decide +kernel
theorem dX2_readNumber_7 : decode cX2_readNumber 7 = .ok (.iload_n 2, 1) := by decide +kernel
theorem dX2_readNumber_8 : decode cX2_readNumber 8 = .ok (.if_icmp .ge 62, 3) := by decide +kernel
theorem dX2_readNumber_11 : decode cX2_readNumber 11 = .ok (.aload_n 1, 1) := by decide +kernel
theorem dX2_readNumber_12 : decode cX2_readNumber 12 = .ok (.aload_n 0, 1) := by decide +kernel
theorem dX2_readNumber_13 : decode cX2_readNumber 13 = .ok (.getfield 25, 3) := by decide +kernel
theorem dX2_readNumber_16 : decode cX2_readNumber 16 = .ok (.invokevirtual 45, 3) := by decide +kernel
theorem dX2_readNumber_19 : decode cX2_readNumber 19 = .ok (.bipush 48, 2) := by decide +kernel
theorem dX2_readNumber_21 : decode cX2_readNumber 21 = .ok (.if_icmp .lt 49, 3) := by decide +kernel
theorem dX2_readNumber_24 : decode cX2_readNumber 24 = .ok (.aload_n 1, 1) := by decide +kernel
theorem dX2_readNumber_25 : decode cX2_readNumber 25 = .ok (.aload_n 0, 1) := by decide +kernel
theorem dX2_readNumber_26 : decode cX2_readNumber 26 = .ok (.getfield 25, 3) := by decide +kernel
theorem dX2_readNumber_29 : decode cX2_readNumber 29 = .ok (.invokevirtual 45, 3) := by decide +kernel
theorem dX2_readNumber_32 : decode cX2_readNumber 32 = .ok (.bipush 57, 2) := by decide +kernel
theorem dX2_readNumber_34 : decode cX2_readNumber 34 = .ok (.if_icmp .gt 36, 3) := by decide +kernel
theorem dX2_readNumber_37 : decode cX2_readNumber 37 = .ok (.iload_n 3, 1) := by decide +kernel
theorem dX2_readNumber_38 : decode cX2_readNumber 38 = .ok (.bipush 10, 2) := by decide +kernel
theorem dX2_readNumber_40 : decode cX2_readNumber 40 = .ok (.imul, 1) := by decide +kernel
theorem dX2_readNumber_41 : decode cX2_readNumber 41 = .ok (.aload_n 1, 1) := by decide +kernel
theorem dX2_readNumber_42 : decode cX2_readNumber 42 = .ok (.aload_n 0, 1) := by decide +kernel
theorem dX2_readNumber_43 : decode cX2_readNumber 43 = .ok (.getfield 25, 3) := by decide +kernel
theorem dX2_readNumber_46 : decode cX2_readNumber 46 = .ok (.invokevirtual 45, 3) := by decide +kernel
theorem dX2_readNumber_49 : decode cX2_readNumber 49 = .ok (.iadd, 1) := by decide +kernel
theorem dX2_readNumber_50 : decode cX2_readNumber 50 = .ok (.bipush 48, 2) := by decide +kernel
theorem dX2_readNumber_52 : decode cX2_readNumber 52 = .ok (.isub, 1) := by decide +kernel
theorem dX2_readNumber_53 : decode cX2_readNumber 53 = .ok (.istore_n 3, 1) := by decide +kernel
theorem dX2_readNumber_54 : decode cX2_readNumber 54 = .ok (.aload_n 0, 1) := by decide +kernel
theorem dX2_readNumber_55 : decode cX2_readNumber 55 = .ok (.dup, 1) := by decide +kernel
theorem dX2_readNumber_56 : decode cX2_readNumber 56 = .ok (.getfield 25, 3) := by decide +kernel
theorem dX2_readNumber_59 : decode cX2_readNumber 59 = .ok (.iconst 1, 1) := by decide +kernel
theorem dX2_readNumber_60 : decode cX2_readNumber 60 = .ok (.iadd, 1) := by decide +kernel
theorem dX2_readNumber_61 : decode cX2_readNumber 61 = .ok (.putfield 25, 3) := by decide +kernel
theorem dX2_readNumber_64 : decode cX2_readNumber 64 = .ok (.iinc 4 1, 3) := by decide +kernel
theorem dX2_readNumber_67 : decode cX2_readNumber 67 = .ok (.goto (-62), 3) := by decide +kernel
theorem dX2_readNumber_70 : decode cX2_readNumber 70 = .ok (.aload_n 0, 1) := by decide +kernel
theorem dX2_readNumber_71 : decode cX2_readNumber 71 = .ok (.iload_n 3, 1) := by decide +kernel
theorem dX2_readNumber_72 : decode cX2_readNumber 72 = .ok (.putfield 28, 3) := by decide +kernel
theorem dX2_readNumber_75 : decode cX2_readNumber 75 = .ok (.iload 4, 2) := by decide +kernel
theorem dX2_readNumber_77 : decode cX2_readNumber 77 = .ok (.ifCond .le 7, 3) := by decide +kernel
theorem dX2_readNumber_80 : decode cX2_readNumber 80 = .ok (.iconst 1, 1) := by decide +kernel
theorem dX2_readNumber_81 : decode cX2_readNumber 81 = .ok (.goto 4, 3) := by decide +kernel
theorem dX2_readNumber_84 : decode cX2_readNumber 84 = .ok (.iconst 0, 1) := by decide +kernel
theorem dX2_readNumber_85 : decode cX2_readNumber 85 = .ok (.ireturn, 1) := by decide +kernel
theorem dX2_kindWith_0 : decode cX2_kindWith 0 = .ok (.iload_n 0, 1) := by decide +kernel
theorem dX2_kindWith_1 : decode cX2_kindWith 1 = .ok (.tableswitch 121 98 119 #[109, 105, 121, 121, 113, 115, 121, 121, 121, 121, 107, 121, 121, 121, 111, 121, 121, 121, 121, 121, 103, 118], 103) := by decide +kernel
theorem dX2_kindWith_104 : decode cX2_kindWith 104 = .ok (.iconst 0, 1) := by decide +kernel
theorem dX2_kindWith_105 : decode cX2_kindWith 105 = .ok (.ireturn, 1) := by decide +kernel
theorem dX2_kindWith_106 : decode cX2_kindWith 106 = .ok (.iconst 1, 1) := by decide +kernel
theorem dX2_kindWith_107 : decode cX2_kindWith 107 = .ok (.ireturn, 1) := by decide +kernel
theorem dX2_kindWith_108 : decode cX2_kindWith 108 = .ok (.iconst 2, 1) := by decide +kernel
theorem dX2_kindWith_109 : decode cX2_kindWith 109 = .ok (.ireturn, 1) := by decide +kernel
theorem dX2_kindWith_110 : decode cX2_kindWith 110 = .ok (.iconst 3, 1) := by decide +kernel
theorem dX2_kindWith_111 : decode cX2_kindWith 111 = .ok (.ireturn, 1) := by decide +kernel
theorem dX2_kindWith_112 : decode cX2_kindWith 112 = .ok (.iconst 4, 1) := by decide +kernel
theorem dX2_kindWith_113 : decode cX2_kindWith 113 = .ok (.ireturn, 1) := by decide +kernel
theorem dX2_kindWith_114 : decode cX2_kindWith 114 = .ok (.iconst 5, 1) := by decide +kernel
theorem dX2_kindWith_115 : decode cX2_kindWith 115 = .ok (.ireturn, 1) := by decide +kernel
theorem dX2_kindWith_116 : decode cX2_kindWith 116 = .ok (.bipush 6, 2) := by decide +kernel
theorem dX2_kindWith_118 : decode cX2_kindWith 118 = .ok (.ireturn, 1) := by decide +kernel
theorem dX2_kindWith_119 : decode cX2_kindWith 119 = .ok (.bipush 7, 2) := by decide +kernel
theorem dX2_kindWith_121 : decode cX2_kindWith 121 = .ok (.ireturn, 1) := by decide +kernel
theorem dX2_kindWith_122 : decode cX2_kindWith 122 = .ok (.iconst (-1), 1) := by decide +kernel
theorem dX2_kindWith_123 : decode cX2_kindWith 123 = .ok (.ireturn, 1) := by decide +kernel
theorem dX2_wordOf_0 : decode cX2_wordOf 0 = .ok (.iload_n 0, 1) := by decide +kernel
theorem dX2_wordOf_1 : decode cX2_wordOf 1 = .ok (.tableswitch 64 0 6 #[43, 46, 49, 52, 55, 58, 61], 43) := by decide +kernel
theorem dX2_wordOf_44 : decode cX2_wordOf 44 = .ok (.ldc 82, 2) := by decide +kernel
theorem dX2_wordOf_46 : decode cX2_wordOf 46 = .ok (.areturn, 1) := by decide +kernel
theorem dX2_wordOf_47 : decode cX2_wordOf 47 = .ok (.ldc 84, 2) := by decide +kernel
theorem dX2_wordOf_49 : decode cX2_wordOf 49 = .ok (.areturn, 1) := by decide +kernel
theorem dX2_wordOf_50 : decode cX2_wordOf 50 = .ok (.ldc 86, 2) := by decide +kernel
theorem dX2_wordOf_52 : decode cX2_wordOf 52 = .ok (.areturn, 1) := by decide +kernel
theorem dX2_wordOf_53 : decode cX2_wordOf 53 = .ok (.ldc 88, 2) := by decide +kernel
theorem dX2_wordOf_55 : decode cX2_wordOf 55 = .ok (.areturn, 1) := by decide +kernel
theorem dX2_wordOf_56 : decode cX2_wordOf 56 = .ok (.ldc 90, 2) := by decide +kernel
theorem dX2_wordOf_58 : decode cX2_wordOf 58 = .ok (.areturn, 1) := by decide +kernel
theorem dX2_wordOf_59 : decode cX2_wordOf 59 = .ok (.ldc 92, 2) := by decide +kernel
theorem dX2_wordOf_61 : decode cX2_wordOf 61 = .ok (.areturn, 1) := by decide +kernel
theorem dX2_wordOf_62 : decode cX2_wordOf 62 = .ok (.ldc 94, 2) := by decide +kernel
theorem dX2_wordOf_64 : decode cX2_wordOf 64 = .ok (.areturn, 1) := by decide +kernel
theorem dX2_wordOf_65 : decode cX2_wordOf 65 = .ok (.ldc 96, 2) := by decide +kernel
theorem dX2_wordOf_67 : decode cX2_wordOf 67 = .ok (.areturn, 1) := by decide +kernel
theorem dX2_firstDigits_0 : decode cX2_firstDigits 0 = .ok (.iload_n 0, 1) := by decide +kernel
theorem dX2_firstDigits_1 : decode cX2_firstDigits 1 = .ok (.lookupswitch 39 #[(1, 35), (2, 35), (6, 37)], 35) := by decide +kernel
theorem dX2_firstDigits_36 : decode cX2_firstDigits 36 = .ok (.iconst 1, 1) := by decide +kernel
theorem dX2_firstDigits_37 : decode cX2_firstDigits 37 = .ok (.ireturn, 1) := by decide +kernel
theorem dX2_firstDigits_38 : decode cX2_firstDigits 38 = .ok (.iconst 3, 1) := by decide +kernel
theorem dX2_firstDigits_39 : decode cX2_firstDigits 39 = .ok (.ireturn, 1) := by decide +kernel
theorem dX2_firstDigits_40 : decode cX2_firstDigits 40 = .ok (.iconst 2, 1) := by decide +kernel
theorem dX2_firstDigits_41 : decode cX2_firstDigits 41 = .ok (.ireturn, 1) := by decide +kernel
theorem dX2_secondDigits_0 : decode cX2_secondDigits 0 = .ok (.iload_n 0, 1) := by decide +kernel
theorem dX2_secondDigits_1 : decode cX2_secondDigits 1 = .ok (.lookupswitch 39 #[(0, 35), (3, 37), (5, 37)], 35) := by decide +kernel
theorem dX2_secondDigits_36 : decode cX2_secondDigits 36 = .ok (.iconst 2, 1) := by decide +kernel
theorem dX2_secondDigits_37 : decode cX2_secondDigits 37 = .ok (.ireturn, 1) := by decide +kernel
theorem dX2_secondDigits_38 : decode cX2_secondDigits 38 = .ok (.iconst 1, 1) := by decide +kernel
theorem dX2_secondDigits_39 : decode cX2_secondDigits 39 = .ok (.ireturn, 1) := by decide +kernel
theorem dX2_secondDigits_40 : decode cX2_secondDigits 40 = .ok (.iconst 0, 1) := by decide +kernel
theorem dX2_secondDigits_41 : decode cX2_secondDigits 41 = .ok (.ireturn, 1) := by decide +kernel
theorem dX3_init_0 : decode cX3_init 0 = .ok (.aload_n 0, 1) := by decide +kernel
theorem dX3_init_1 : decode cX3_init 1 = .ok (.invokespecial 3, 3) := by decide +kernel
theorem dX3_init_4 : decode cX3_init 4 = .ok (.aload_n 0, 1) := by decide +kernel
theorem dX3_init_5 : decode cX3_init 5 = .ok (.bipush 16, 2) := by decide +kernel
theorem dX3_init_7 : decode cX3_init 7 = .ok (.newarray .int, 2) := by decide +kernel
theorem dX3_init_9 : decode cX3_init 9 = .ok (.putfield 9, 3) := by decide +kernel
theorem dX3_init_12 : decode cX3_init 12 = .ok (.return_, 1) := by decide +kernel
theorem dX3_byVoices_0 : decode cX3_byVoices 0 = .ok (.iconst 0, 1) := by decide +kernel
theorem dX3_byVoices_1 : decode cX3_byVoices 1 = .ok (.istore_n 3, 1) := by decide +kernel
theorem dX3_byVoices_2 : decode cX3_byVoices 2 = .ok (.iload_n 3, 1) := by decide +kernel
theorem dX3_byVoices_3 : decode cX3_byVoices 3 = .ok (.aload_n 0, 1) := by decide +kernel
theorem dX3_byVoices_4 : decode cX3_byVoices 4 = .ok (.getfield 9, 3) := by decide +kernel
theorem dX3_byVoices_7 : decode cX3_byVoices 7 = .ok (.arraylength, 1) := by decide +kernel
theorem dX3_byVoices_8 : decode cX3_byVoices 8 = .ok (.if_icmp .ge 55, 3) := by decide +kernel
theorem dX3_byVoices_11 : decode cX3_byVoices 11 = .ok (.aload_n 1, 1) := by decide +kernel
theorem dX3_byVoices_12 : decode cX3_byVoices 12 = .ok (.iconst 2, 1) := by decide +kernel
theorem dX3_byVoices_13 : decode cX3_byVoices 13 = .ok (.iload_n 3, 1) := by decide +kernel
theorem dX3_byVoices_14 : decode cX3_byVoices 14 = .ok (.invokevirtual 15, 3) := by decide +kernel
theorem dX3_byVoices_17 : decode cX3_byVoices 17 = .ok (.ifCond .ne 7, 3) := by decide +kernel
theorem dX3_byVoices_20 : decode cX3_byVoices 20 = .ok (.iconst 1, 1) := by decide +kernel
theorem dX3_byVoices_21 : decode cX3_byVoices 21 = .ok (.goto 4, 3) := by decide +kernel
theorem dX3_byVoices_24 : decode cX3_byVoices 24 = .ok (.iconst 0, 1) := by decide +kernel
theorem dX3_byVoices_25 : decode cX3_byVoices 25 = .ok (.istore 4, 2) := by decide +kernel
theorem dX3_byVoices_27 : decode cX3_byVoices 27 = .ok (.aload_n 0, 1) := by decide +kernel
theorem dX3_byVoices_28 : decode cX3_byVoices 28 = .ok (.getfield 9, 3) := by decide +kernel
theorem dX3_byVoices_31 : decode cX3_byVoices 31 = .ok (.iload_n 3, 1) := by decide +kernel
theorem dX3_byVoices_32 : decode cX3_byVoices 32 = .ok (.iload 4, 2) := by decide +kernel
theorem dX3_byVoices_34 : decode cX3_byVoices 34 = .ok (.ifCond .eq 21, 3) := by decide +kernel
theorem dX3_byVoices_37 : decode cX3_byVoices 37 = .ok (.aload_n 1, 1) := by decide +kernel
theorem dX3_byVoices_38 : decode cX3_byVoices 38 = .ok (.iload_n 3, 1) := by decide +kernel
theorem dX3_byVoices_39 : decode cX3_byVoices 39 = .ok (.invokevirtual 21, 3) := by decide +kernel
theorem dX3_byVoices_42 : decode cX3_byVoices 42 = .ok (.bipush 16, 2) := by decide +kernel
theorem dX3_byVoices_44 : decode cX3_byVoices 44 = .ok (.imul, 1) := by decide +kernel
theorem dX3_byVoices_45 : decode cX3_byVoices 45 = .ok (.bipush 16, 2) := by decide +kernel
theorem dX3_byVoices_47 : decode cX3_byVoices 47 = .ok (.iadd, 1) := by decide +kernel
theorem dX3_byVoices_48 : decode cX3_byVoices 48 = .ok (.iconst 1, 1) := by decide +kernel
theorem dX3_byVoices_49 : decode cX3_byVoices 49 = .ok (.isub, 1) := by decide +kernel
theorem dX3_byVoices_50 : decode cX3_byVoices 50 = .ok (.iload_n 3, 1) := by decide +kernel
theorem dX3_byVoices_51 : decode cX3_byVoices 51 = .ok (.isub, 1) := by decide +kernel
theorem dX3_byVoices_52 : decode cX3_byVoices 52 = .ok (.goto 4, 3) := by decide +kernel
theorem dX3_byVoices_55 : decode cX3_byVoices 55 = .ok (.iconst (-1), 1) := by decide +kernel
theorem dX3_byVoices_56 : decode cX3_byVoices 56 = .ok (.iastore, 1) := by decide +kernel
theorem dX3_byVoices_57 : decode cX3_byVoices 57 = .ok (.iinc 3 1, 3) := by decide +kernel
theorem dX3_byVoices_60 : decode cX3_byVoices 60 = .ok (.goto (-58), 3) := by decide +kernel
theorem dX3_byVoices_63 : decode cX3_byVoices 63 = .ok (.aload_n 0, 1) := by decide +kernel
theorem dX3_byVoices_64 : decode cX3_byVoices 64 = .ok (.iload_n 2, 1) := by decide +kernel
theorem dX3_byVoices_65 : decode cX3_byVoices 65 = .ok (.invokevirtual 25, 3) := by decide +kernel
theorem dX3_byVoices_68 : decode cX3_byVoices 68 = .ok (.ireturn, 1) := by decide +kernel
theorem dX3_byTime_0 : decode cX3_byTime 0 = .ok (.iconst 0, 1) := by decide +kernel
theorem dX3_byTime_1 : decode cX3_byTime 1 = .ok (.istore_n 3, 1) := by decide +kernel
theorem dX3_byTime_2 : decode cX3_byTime 2 = .ok (.iload_n 3, 1) := by decide +kernel
theorem dX3_byTime_3 : decode cX3_byTime 3 = .ok (.aload_n 0, 1) := by decide +kernel
theorem dX3_byTime_4 : decode cX3_byTime 4 = .ok (.getfield 9, 3) := by decide +kernel
theorem dX3_byTime_7 : decode cX3_byTime 7 = .ok (.arraylength, 1) := by decide +kernel
theorem dX3_byTime_8 : decode cX3_byTime 8 = .ok (.if_icmp .ge 51, 3) := by decide +kernel
theorem dX3_byTime_11 : decode cX3_byTime 11 = .ok (.aload_n 1, 1) := by decide +kernel
theorem dX3_byTime_12 : decode cX3_byTime 12 = .ok (.iconst 2, 1) := by decide +kernel
theorem dX3_byTime_13 : decode cX3_byTime 13 = .ok (.iload_n 3, 1) := by decide +kernel
theorem dX3_byTime_14 : decode cX3_byTime 14 = .ok (.invokevirtual 15, 3) := by decide +kernel
theorem dX3_byTime_17 : decode cX3_byTime 17 = .ok (.iconst 1, 1) := by decide +kernel
theorem dX3_byTime_18 : decode cX3_byTime 18 = .ok (.if_icmp .ne 7, 3) := by decide +kernel
theorem dX3_byTime_21 : decode cX3_byTime 21 = .ok (.iconst 1, 1) := by decide +kernel
theorem dX3_byTime_22 : decode cX3_byTime 22 = .ok (.goto 4, 3) := by decide +kernel
theorem dX3_byTime_25 : decode cX3_byTime 25 = .ok (.iconst 0, 1) := by decide +kernel
theorem dX3_byTime_26 : decode cX3_byTime 26 = .ok (.istore 4, 2) := by decide +kernel
theorem dX3_byTime_28 : decode cX3_byTime 28 = .ok (.aload_n 0, 1) := by decide +kernel
theorem dX3_byTime_29 : decode cX3_byTime 29 = .ok (.getfield 9, 3) := by decide +kernel
theorem dX3_byTime_32 : decode cX3_byTime 32 = .ok (.iload_n 3, 1) := by decide +kernel
theorem dX3_byTime_33 : decode cX3_byTime 33 = .ok (.iload 4, 2) := by decide +kernel
theorem dX3_byTime_35 : decode cX3_byTime 35 = .ok (.ifCond .eq 16, 3) := by decide +kernel
theorem dX3_byTime_38 : decode cX3_byTime 38 = .ok (.bipush 15, 2) := by decide +kernel
theorem dX3_byTime_40 : decode cX3_byTime 40 = .ok (.aload_n 1, 1) := by decide +kernel
theorem dX3_byTime_41 : decode cX3_byTime 41 = .ok (.bipush 8, 2) := by decide +kernel
theorem dX3_byTime_43 : decode cX3_byTime 43 = .ok (.iload_n 3, 1) := by decide +kernel
theorem dX3_byTime_44 : decode cX3_byTime 44 = .ok (.invokevirtual 15, 3) := by decide +kernel
theorem dX3_byTime_47 : decode cX3_byTime 47 = .ok (.isub, 1) := by decide +kernel
theorem dX3_byTime_48 : decode cX3_byTime 48 = .ok (.goto 4, 3) := by decide +kernel
theorem dX3_byTime_51 : decode cX3_byTime 51 = .ok (.iconst (-1), 1) := by decide +kernel
theorem dX3_byTime_52 : decode cX3_byTime 52 = .ok (.iastore, 1) := by decide +kernel
theorem dX3_byTime_53 : decode cX3_byTime 53 = .ok (.iinc 3 1, 3) := by decide +kernel
theorem dX3_byTime_56 : decode cX3_byTime 56 = .ok (.goto (-54), 3) := by decide +kernel
theorem dX3_byTime_59 : decode cX3_byTime 59 = .ok (.aload_n 0, 1) := by decide +kernel
theorem dX3_byTime_60 : decode cX3_byTime 60 = .ok (.iload_n 2, 1) := by decide +kernel
theorem dX3_byTime_61 : decode cX3_byTime 61 = .ok (.invokevirtual 25, 3) := by decide +kernel
theorem dX3_byTime_64 : decode cX3_byTime 64 = .ok (.ireturn, 1) := by decide +kernel
theorem dX3_byGown_0 : decode cX3_byGown 0 = .ok (.iconst 0, 1) := by decide +kernel
theorem dX3_byGown_1 : decode cX3_byGown 1 = .ok (.istore_n 3, 1) := by decide +kernel
theorem dX3_byGown_2 : decode cX3_byGown 2 = .ok (.iload_n 3, 1) := by decide +kernel
theorem dX3_byGown_3 : decode cX3_byGown 3 = .ok (.aload_n 0, 1) := by decide +kernel
theorem dX3_byGown_4 : decode cX3_byGown 4 = .ok (.getfield 9, 3) := by decide +kernel
theorem dX3_byGown_7 : decode cX3_byGown 7 = .ok (.arraylength, 1) := by decide +kernel
theorem dX3_byGown_8 : decode cX3_byGown 8 = .ok (.if_icmp .ge 62, 3) := by decide +kernel
theorem dX3_byGown_11 : decode cX3_byGown 11 = .ok (.aload_n 1, 1) := by decide +kernel
theorem dX3_byGown_12 : decode cX3_byGown 12 = .ok (.iconst 2, 1) := by decide +kernel
theorem dX3_byGown_13 : decode cX3_byGown 13 = .ok (.iload_n 3, 1) := by decide +kernel
theorem dX3_byGown_14 : decode cX3_byGown 14 = .ok (.invokevirtual 15, 3) := by decide +kernel
theorem dX3_byGown_17 : decode cX3_byGown 17 = .ok (.iconst 1, 1) := by decide +kernel
theorem dX3_byGown_18 : decode cX3_byGown 18 = .ok (.if_icmp .ne 7, 3) := by decide +kernel
theorem dX3_byGown_21 : decode cX3_byGown 21 = .ok (.iconst 1, 1) := by decide +kernel
theorem dX3_byGown_22 : decode cX3_byGown 22 = .ok (.goto 4, 3) := by decide +kernel
theorem dX3_byGown_25 : decode cX3_byGown 25 = .ok (.iconst 0, 1) := by decide +kernel
theorem dX3_byGown_26 : decode cX3_byGown 26 = .ok (.istore 4, 2) := by decide +kernel
theorem dX3_byGown_28 : decode cX3_byGown 28 = .ok (.aload_n 0, 1) := by decide +kernel
theorem dX3_byGown_29 : decode cX3_byGown 29 = .ok (.getfield 9, 3) := by decide +kernel
theorem dX3_byGown_32 : decode cX3_byGown 32 = .ok (.iload_n 3, 1) := by decide +kernel
theorem dX3_byGown_33 : decode cX3_byGown 33 = .ok (.iload 4, 2) := by decide +kernel
theorem dX3_byGown_35 : decode cX3_byGown 35 = .ok (.ifCond .eq 27, 3) := by decide +kernel
theorem dX3_byGown_38 : decode cX3_byGown 38 = .ok (.aload_n 1, 1) := by decide +kernel
theorem dX3_byGown_39 : decode cX3_byGown 39 = .ok (.iconst 4, 1) := by decide +kernel
theorem dX3_byGown_40 : decode cX3_byGown 40 = .ok (.iload_n 3, 1) := by decide +kernel
theorem dX3_byGown_41 : decode cX3_byGown 41 = .ok (.invokevirtual 15, 3) := by decide +kernel
theorem dX3_byGown_44 : decode cX3_byGown 44 = .ok (.iconst 1, 1) := by decide +kernel
theorem dX3_byGown_45 : decode cX3_byGown 45 = .ok (.iadd, 1) := by decide +kernel
theorem dX3_byGown_46 : decode cX3_byGown 46 = .ok (.bipush 16, 2) := by decide +kernel
theorem dX3_byGown_48 : decode cX3_byGown 48 = .ok (.imul, 1) := by decide +kernel
theorem dX3_byGown_49 : decode cX3_byGown 49 = .ok (.iconst 1, 1) := by decide +kernel
theorem dX3_byGown_50 : decode cX3_byGown 50 = .ok (.isub, 1) := by decide +kernel
theorem dX3_byGown_51 : decode cX3_byGown 51 = .ok (.aload_n 1, 1) := by decide +kernel
theorem dX3_byGown_52 : decode cX3_byGown 52 = .ok (.bipush 8, 2) := by decide +kernel
theorem dX3_byGown_54 : decode cX3_byGown 54 = .ok (.iload_n 3, 1) := by decide +kernel
theorem dX3_byGown_55 : decode cX3_byGown 55 = .ok (.invokevirtual 15, 3) := by decide +kernel
theorem dX3_byGown_58 : decode cX3_byGown 58 = .ok (.isub, 1) := by decide +kernel
theorem dX3_byGown_59 : decode cX3_byGown 59 = .ok (.goto 4, 3) := by decide +kernel
theorem dX3_byGown_62 : decode cX3_byGown 62 = .ok (.iconst (-1), 1) := by decide +kernel
theorem dX3_byGown_63 : decode cX3_byGown 63 = .ok (.iastore, 1) := by decide +kernel
theorem dX3_byGown_64 : decode cX3_byGown 64 = .ok (.iinc 3 1, 3) := by decide +kernel
theorem dX3_byGown_67 : decode cX3_byGown 67 = .ok (.goto (-65), 3) := by decide +kernel
theorem dX3_byGown_70 : decode cX3_byGown 70 = .ok (.aload_n 0, 1) := by decide +kernel
theorem dX3_byGown_71 : decode cX3_byGown 71 = .ok (.iload_n 2, 1) := by decide +kernel
theorem dX3_byGown_72 : decode cX3_byGown 72 = .ok (.invokevirtual 25, 3) := by decide +kernel
theorem dX3_byGown_75 : decode cX3_byGown 75 = .ok (.ireturn, 1) := by decide +kernel
theorem dX3_withPlace_0 : decode cX3_withPlace 0 = .ok (.iconst 0, 1) := by decide +kernel
theorem dX3_withPlace_1 : decode cX3_withPlace 1 = .ok (.istore_n 2, 1) := by decide +kernel
theorem dX3_withPlace_2 : decode cX3_withPlace 2 = .ok (.iload_n 2, 1) := by decide +kernel
theorem dX3_withPlace_3 : decode cX3_withPlace 3 = .ok (.aload_n 0, 1) := by decide +kernel
theorem dX3_withPlace_4 : decode cX3_withPlace 4 = .ok (.getfield 9, 3) := by decide +kernel
theorem dX3_withPlace_7 : decode cX3_withPlace 7 = .ok (.arraylength, 1) := by decide +kernel
theorem dX3_withPlace_8 : decode cX3_withPlace 8 = .ok (.if_icmp .ge 75, 3) := by decide +kernel
theorem dX3_withPlace_11 : decode cX3_withPlace 11 = .ok (.iconst 0, 1) := by decide +kernel
theorem dX3_withPlace_12 : decode cX3_withPlace 12 = .ok (.istore_n 3, 1) := by decide +kernel
theorem dX3_withPlace_13 : decode cX3_withPlace 13 = .ok (.aload_n 0, 1) := by decide +kernel
theorem dX3_withPlace_14 : decode cX3_withPlace 14 = .ok (.getfield 9, 3) := by decide +kernel
theorem dX3_withPlace_17 : decode cX3_withPlace 17 = .ok (.astore 4, 2) := by decide +kernel
theorem dX3_withPlace_19 : decode cX3_withPlace 19 = .ok (.aload 4, 2) := by decide +kernel
theorem dX3_withPlace_21 : decode cX3_withPlace 21 = .ok (.arraylength, 1) := by decide +kernel
theorem dX3_withPlace_22 : decode cX3_withPlace 22 = .ok (.istore 5, 2) := by decide +kernel
theorem dX3_withPlace_24 : decode cX3_withPlace 24 = .ok (.iconst 0, 1) := by decide +kernel
theorem dX3_withPlace_25 : decode cX3_withPlace 25 = .ok (.istore 6, 2) := by decide +kernel
theorem dX3_withPlace_27 : decode cX3_withPlace 27 = .ok (.iload 6, 2) := by decide +kernel
theorem dX3_withPlace_29 : decode cX3_withPlace 29 = .ok (.iload 5, 2) := by decide +kernel
theorem dX3_withPlace_31 : decode cX3_withPlace 31 = .ok (.if_icmp .ge 30, 3) := by decide +kernel
theorem dX3_withPlace_34 : decode cX3_withPlace 34 = .ok (.aload 4, 2) := by decide +kernel
theorem dX3_withPlace_36 : decode cX3_withPlace 36 = .ok (.iload 6, 2) := by decide +kernel
theorem dX3_withPlace_38 : decode cX3_withPlace 38 = .ok (.iaload, 1) := by decide +kernel
theorem dX3_withPlace_39 : decode cX3_withPlace 39 = .ok (.istore 7, 2) := by decide +kernel
theorem dX3_withPlace_41 : decode cX3_withPlace 41 = .ok (.iload 7, 2) := by decide +kernel
theorem dX3_withPlace_43 : decode cX3_withPlace 43 = .ok (.aload_n 0, 1) := by decide +kernel
theorem dX3_withPlace_44 : decode cX3_withPlace 44 = .ok (.getfield 9, 3) := by decide +kernel
theorem dX3_withPlace_47 : decode cX3_withPlace 47 = .ok (.iload_n 2, 1) := by decide +kernel
theorem dX3_withPlace_48 : decode cX3_withPlace 48 = .ok (.iaload, 1) := by decide +kernel
theorem dX3_withPlace_49 : decode cX3_withPlace 49 = .ok (.if_icmp .le 6, 3) := by decide +kernel
theorem dX3_withPlace_52 : decode cX3_withPlace 52 = .ok (.iinc 3 1, 3) := by decide +kernel
theorem dX3_withPlace_55 : decode cX3_withPlace 55 = .ok (.iinc 6 1, 3) := by decide +kernel
theorem dX3_withPlace_58 : decode cX3_withPlace 58 = .ok (.goto (-31), 3) := by decide +kernel
theorem dX3_withPlace_61 : decode cX3_withPlace 61 = .ok (.aload_n 0, 1) := by decide +kernel
theorem dX3_withPlace_62 : decode cX3_withPlace 62 = .ok (.getfield 9, 3) := by decide +kernel
theorem dX3_withPlace_65 : decode cX3_withPlace 65 = .ok (.iload_n 2, 1) := by decide +kernel
theorem dX3_withPlace_66 : decode cX3_withPlace 66 = .ok (.iaload, 1) := by decide +kernel
theorem dX3_withPlace_67 : decode cX3_withPlace 67 = .ok (.ifCond .lt 10, 3) := by decide +kernel
theorem dX3_withPlace_70 : decode cX3_withPlace 70 = .ok (.iload_n 3, 1) := by decide +kernel
theorem dX3_withPlace_71 : decode cX3_withPlace 71 = .ok (.iload_n 1, 1) := by decide +kernel
theorem dX3_withPlace_72 : decode cX3_withPlace 72 = .ok (.if_icmp .ne 5, 3) := by decide +kernel
theorem dX3_withPlace_75 : decode cX3_withPlace 75 = .ok (.iload_n 2, 1) := by decide +kernel
theorem dX3_withPlace_76 : decode cX3_withPlace 76 = .ok (.ireturn, 1) := by decide +kernel
theorem dX3_withPlace_77 : decode cX3_withPlace 77 = .ok (.iinc 2 1, 3) := by decide +kernel
theorem dX3_withPlace_80 : decode cX3_withPlace 80 = .ok (.goto (-78), 3) := by decide +kernel
theorem dX3_withPlace_83 : decode cX3_withPlace 83 = .ok (.bipush (-11), 2) := by decide +kernel
theorem dX3_withPlace_85 : decode cX3_withPlace 85 = .ok (.ireturn, 1) := by decide +kernel
theorem dX4_init_0 : decode cX4_init 0 = .ok (.aload_n 0, 1) := by decide +kernel
theorem dX4_init_1 : decode cX4_init 1 = .ok (.invokespecial 1, 3) := by decide +kernel
theorem dX4_init_4 : decode cX4_init 4 = .ok (.aload_n 0, 1) := by decide +kernel
theorem dX4_init_5 : decode cX4_init 5 = .ok (.iconst 0, 1) := by decide +kernel
theorem dX4_init_6 : decode cX4_init 6 = .ok (.putfield 7, 3) := by decide +kernel
theorem dX4_init_9 : decode cX4_init 9 = .ok (.aload_n 0, 1) := by decide +kernel
theorem dX4_init_10 : decode cX4_init 10 = .ok (.iload_n 1, 1) := by decide +kernel
theorem dX4_init_11 : decode cX4_init 11 = .ok (.iconst 0, 1) := by decide +kernel
theorem dX4_init_12 : decode cX4_init 12 = .ok (.invokestatic 13, 3) := by decide +kernel
theorem dX4_init_15 : decode cX4_init 15 = .ok (.newarray .int, 2) := by decide +kernel
theorem dX4_init_17 : decode cX4_init 17 = .ok (.putfield 19, 3) := by decide +kernel
theorem dX4_init_20 : decode cX4_init 20 = .ok (.return_, 1) := by decide +kernel
theorem dX4_size_0 : decode cX4_size 0 = .ok (.aload_n 0, 1) := by decide +kernel
theorem dX4_size_1 : decode cX4_size 1 = .ok (.getfield 7, 3) := by decide +kernel
theorem dX4_size_4 : decode cX4_size 4 = .ok (.ireturn, 1) := by decide +kernel
theorem dX4_at_0 : decode cX4_at 0 = .ok (.iload_n 1, 1) := by decide +kernel
theorem dX4_at_1 : decode cX4_at 1 = .ok (.ifCond .lt 29, 3) := by decide +kernel
theorem dX4_at_4 : decode cX4_at 4 = .ok (.iload_n 1, 1) := by decide +kernel
theorem dX4_at_5 : decode cX4_at 5 = .ok (.aload_n 0, 1) := by decide +kernel
theorem dX4_at_6 : decode cX4_at 6 = .ok (.getfield 7, 3) := by decide +kernel
theorem dX4_at_9 : decode cX4_at 9 = .ok (.if_icmp .ge 21, 3) := by decide +kernel
theorem dX4_at_12 : decode cX4_at 12 = .ok (.iload_n 1, 1) := by decide +kernel
theorem dX4_at_13 : decode cX4_at 13 = .ok (.aload_n 0, 1) := by decide +kernel
theorem dX4_at_14 : decode cX4_at 14 = .ok (.getfield 19, 3) := by decide +kernel
theorem dX4_at_17 : decode cX4_at 17 = .ok (.arraylength, 1) := by decide +kernel
theorem dX4_at_18 : decode cX4_at 18 = .ok (.if_icmp .ge 12, 3) := by decide +kernel
theorem dX4_at_21 : decode cX4_at 21 = .ok (.aload_n 0, 1) := by decide +kernel
theorem dX4_at_22 : decode cX4_at 22 = .ok (.getfield 19, 3) := by decide +kernel
theorem dX4_at_25 : decode cX4_at 25 = .ok (.iload_n 1, 1) := by decide +kernel
theorem dX4_at_26 : decode cX4_at 26 = .ok (.iaload, 1) := by decide +kernel
theorem dX4_at_27 : decode cX4_at 27 = .ok (.goto 4, 3) := by decide +kernel
theorem dX4_at_30 : decode cX4_at 30 = .ok (.iconst (-1), 1) := by decide +kernel
theorem dX4_at_31 : decode cX4_at 31 = .ok (.ireturn, 1) := by decide +kernel
theorem dX4_clear_0 : decode cX4_clear 0 = .ok (.aload_n 0, 1) := by decide +kernel
theorem dX4_clear_1 : decode cX4_clear 1 = .ok (.iconst 0, 1) := by decide +kernel
theorem dX4_clear_2 : decode cX4_clear 2 = .ok (.putfield 7, 3) := by decide +kernel
theorem dX4_clear_5 : decode cX4_clear 5 = .ok (.return_, 1) := by decide +kernel
theorem dX4_add_0 : decode cX4_add 0 = .ok (.aload_n 0, 1) := by decide +kernel
theorem dX4_add_1 : decode cX4_add 1 = .ok (.getfield 7, 3) := by decide +kernel
theorem dX4_add_4 : decode cX4_add 4 = .ok (.ifCond .lt 35, 3) := by decide +kernel
theorem dX4_add_7 : decode cX4_add 7 = .ok (.aload_n 0, 1) := by decide +kernel
theorem dX4_add_8 : decode cX4_add 8 = .ok (.getfield 7, 3) := by decide +kernel
theorem dX4_add_11 : decode cX4_add 11 = .ok (.aload_n 0, 1) := by decide +kernel
theorem dX4_add_12 : decode cX4_add 12 = .ok (.getfield 19, 3) := by decide +kernel
theorem dX4_add_15 : decode cX4_add 15 = .ok (.arraylength, 1) := by decide +kernel
theorem dX4_add_16 : decode cX4_add 16 = .ok (.if_icmp .ge 23, 3) := by decide +kernel
theorem dX4_add_19 : decode cX4_add 19 = .ok (.aload_n 0, 1) := by decide +kernel
theorem dX4_add_20 : decode cX4_add 20 = .ok (.getfield 19, 3) := by decide +kernel
theorem dX4_add_23 : decode cX4_add 23 = .ok (.aload_n 0, 1) := by decide +kernel
theorem dX4_add_24 : decode cX4_add 24 = .ok (.getfield 7, 3) := by decide +kernel
theorem dX4_add_27 : decode cX4_add 27 = .ok (.iload_n 1, 1) := by decide +kernel
theorem dX4_add_28 : decode cX4_add 28 = .ok (.iastore, 1) := by decide +kernel
theorem dX4_add_29 : decode cX4_add 29 = .ok (.aload_n 0, 1) := by decide +kernel
theorem dX4_add_30 : decode cX4_add 30 = .ok (.dup, 1) := by decide +kernel
theorem dX4_add_31 : decode cX4_add 31 = .ok (.getfield 7, 3) := by decide +kernel
theorem dX4_add_34 : decode cX4_add 34 = .ok (.iconst 1, 1) := by decide +kernel
theorem dX4_add_35 : decode cX4_add 35 = .ok (.iadd, 1) := by decide +kernel
theorem dX4_add_36 : decode cX4_add 36 = .ok (.putfield 7, 3) := by decide +kernel
theorem dX4_add_39 : decode cX4_add 39 = .ok (.return_, 1) := by decide +kernel
theorem dX4_addNumber_0 : decode cX4_addNumber 0 = .ok (.iload_n 1, 1) := by decide +kernel
theorem dX4_addNumber_1 : decode cX4_addNumber 1 = .ok (.bipush 10, 2) := by decide +kernel
theorem dX4_addNumber_3 : decode cX4_addNumber 3 = .ok (.if_icmp .lt 14, 3) := by decide +kernel
theorem dX4_addNumber_6 : decode cX4_addNumber 6 = .ok (.aload_n 0, 1) := by decide +kernel
theorem dX4_addNumber_7 : decode cX4_addNumber 7 = .ok (.bipush 48, 2) := by decide +kernel
theorem dX4_addNumber_9 : decode cX4_addNumber 9 = .ok (.iload_n 1, 1) := by decide +kernel
theorem dX4_addNumber_10 : decode cX4_addNumber 10 = .ok (.bipush 10, 2) := by decide +kernel
theorem dX4_addNumber_12 : decode cX4_addNumber 12 = .ok (.idiv, 1) := by decide +kernel
theorem dX4_addNumber_13 : decode cX4_addNumber 13 = .ok (.iadd, 1) := by decide +kernel
theorem dX4_addNumber_14 : decode cX4_addNumber 14 = .ok (.invokevirtual 23, 3) := by decide +kernel
theorem dX4_addNumber_17 : decode cX4_addNumber 17 = .ok (.aload_n 0, 1) := by decide +kernel
theorem dX4_addNumber_18 : decode cX4_addNumber 18 = .ok (.bipush 48, 2) := by decide +kernel
theorem dX4_addNumber_20 : decode cX4_addNumber 20 = .ok (.iload_n 1, 1) := by decide +kernel
theorem dX4_addNumber_21 : decode cX4_addNumber 21 = .ok (.bipush 10, 2) := by decide +kernel
theorem dX4_addNumber_23 : decode cX4_addNumber 23 = .ok (.irem, 1) := by decide +kernel
theorem dX4_addNumber_24 : decode cX4_addNumber 24 = .ok (.iadd, 1) := by decide +kernel
theorem dX4_addNumber_25 : decode cX4_addNumber 25 = .ok (.invokevirtual 23, 3) := by decide +kernel
theorem dX4_addNumber_28 : decode cX4_addNumber 28 = .ok (.return_, 1) := by decide +kernel
theorem dX5_init_0 : decode cX5_init 0 = .ok (.aload_n 0, 1) := by decide +kernel
theorem dX5_init_1 : decode cX5_init 1 = .ok (.invokespecial 3, 3) := by decide +kernel
theorem dX5_init_4 : decode cX5_init 4 = .ok (.aload_n 0, 1) := by decide +kernel
theorem dX5_init_5 : decode cX5_init 5 = .ok (.sipush 294, 3) := by decide +kernel
theorem dX5_init_8 : decode cX5_init 8 = .ok (.newarray .int, 2) := by decide +kernel
theorem dX5_init_10 : decode cX5_init 10 = .ok (.putfield 9, 3) := by decide +kernel
theorem dX5_init_13 : decode cX5_init 13 = .ok (.iconst 0, 1) := by decide +kernel
theorem dX5_init_14 : decode cX5_init 14 = .ok (.istore_n 1, 1) := by decide +kernel
theorem dX5_init_15 : decode cX5_init 15 = .ok (.iload_n 1, 1) := by decide +kernel
theorem dX5_init_16 : decode cX5_init 16 = .ok (.bipush 16, 2) := by decide +kernel
theorem dX5_init_18 : decode cX5_init 18 = .ok (.if_icmp .ge 33, 3) := by decide +kernel
theorem dX5_init_21 : decode cX5_init 21 = .ok (.aload_n 0, 1) := by decide +kernel
theorem dX5_init_22 : decode cX5_init 22 = .ok (.iconst 2, 1) := by decide +kernel
theorem dX5_init_23 : decode cX5_init 23 = .ok (.iload_n 1, 1) := by decide +kernel
theorem dX5_init_24 : decode cX5_init 24 = .ok (.iconst (-1), 1) := by decide +kernel
theorem dX5_init_25 : decode cX5_init 25 = .ok (.invokevirtual 15, 3) := by decide +kernel
theorem dX5_init_28 : decode cX5_init 28 = .ok (.aload_n 0, 1) := by decide +kernel
theorem dX5_init_29 : decode cX5_init 29 = .ok (.iconst 3, 1) := by decide +kernel
theorem dX5_init_30 : decode cX5_init 30 = .ok (.iload_n 1, 1) := by decide +kernel
theorem dX5_init_31 : decode cX5_init 31 = .ok (.bipush (-15), 2) := by decide +kernel
theorem dX5_init_33 : decode cX5_init 33 = .ok (.invokevirtual 15, 3) := by decide +kernel
theorem dX5_init_36 : decode cX5_init 36 = .ok (.aload_n 0, 1) := by decide +kernel
theorem dX5_init_37 : decode cX5_init 37 = .ok (.bipush 7, 2) := by decide +kernel
theorem dX5_init_39 : decode cX5_init 39 = .ok (.iload_n 1, 1) := by decide +kernel
theorem dX5_init_40 : decode cX5_init 40 = .ok (.bipush (-15), 2) := by decide +kernel
theorem dX5_init_42 : decode cX5_init 42 = .ok (.invokevirtual 15, 3) := by decide +kernel
theorem dX5_init_45 : decode cX5_init 45 = .ok (.iinc 1 1, 3) := by decide +kernel
theorem dX5_init_48 : decode cX5_init 48 = .ok (.goto (-33), 3) := by decide +kernel
theorem dX5_init_51 : decode cX5_init 51 = .ok (.iconst 0, 1) := by decide +kernel
theorem dX5_init_52 : decode cX5_init 52 = .ok (.istore_n 1, 1) := by decide +kernel
theorem dX5_init_53 : decode cX5_init 53 = .ok (.iload_n 1, 1) := by decide +kernel
theorem dX5_init_54 : decode cX5_init 54 = .ok (.bipush 8, 2) := by decide +kernel
theorem dX5_init_56 : decode cX5_init 56 = .ok (.if_icmp .ge 20, 3) := by decide +kernel
theorem dX5_init_59 : decode cX5_init 59 = .ok (.aload_n 0, 1) := by decide +kernel
theorem dX5_init_60 : decode cX5_init 60 = .ok (.sipush 224, 3) := by decide +kernel
theorem dX5_init_63 : decode cX5_init 63 = .ok (.iload_n 1, 1) := by decide +kernel
theorem dX5_init_64 : decode cX5_init 64 = .ok (.iadd, 1) := by decide +kernel
theorem dX5_init_65 : decode cX5_init 65 = .ok (.bipush (-15), 2) := by decide +kernel
theorem dX5_init_67 : decode cX5_init 67 = .ok (.invokevirtual 19, 3) := by decide +kernel
theorem dX5_init_70 : decode cX5_init 70 = .ok (.iinc 1 1, 3) := by decide +kernel
theorem dX5_init_73 : decode cX5_init 73 = .ok (.goto (-20), 3) := by decide +kernel
theorem dX5_init_76 : decode cX5_init 76 = .ok (.aload_n 0, 1) := by decide +kernel
theorem dX5_init_77 : decode cX5_init 77 = .ok (.sipush 288, 3) := by decide +kernel
theorem dX5_init_80 : decode cX5_init 80 = .ok (.bipush 100, 2) := by decide +kernel
theorem dX5_init_82 : decode cX5_init 82 = .ok (.invokevirtual 19, 3) := by decide +kernel
theorem dX5_init_85 : decode cX5_init 85 = .ok (.return_, 1) := by decide +kernel
theorem dX5_get_0 : decode cX5_get 0 = .ok (.iload_n 1, 1) := by decide +kernel
theorem dX5_get_1 : decode cX5_get 1 = .ok (.ifCond .lt 21, 3) := by decide +kernel
theorem dX5_get_4 : decode cX5_get 4 = .ok (.iload_n 1, 1) := by decide +kernel
theorem dX5_get_5 : decode cX5_get 5 = .ok (.aload_n 0, 1) := by decide +kernel
theorem dX5_get_6 : decode cX5_get 6 = .ok (.getfield 9, 3) := by decide +kernel
theorem dX5_get_9 : decode cX5_get 9 = .ok (.arraylength, 1) := by decide +kernel
theorem dX5_get_10 : decode cX5_get 10 = .ok (.if_icmp .ge 12, 3) := by decide +kernel
theorem dX5_get_13 : decode cX5_get 13 = .ok (.aload_n 0, 1) := by decide +kernel
theorem dX5_get_14 : decode cX5_get 14 = .ok (.getfield 9, 3) := by decide +kernel
theorem dX5_get_17 : decode cX5_get 17 = .ok (.iload_n 1, 1) := by decide +kernel
theorem dX5_get_18 : decode cX5_get 18 = .ok (.iaload, 1) := by decide +kernel
theorem dX5_get_19 : decode cX5_get 19 = .ok (.goto 4, 3) := by decide +kernel
theorem dX5_get_22 : decode cX5_get 22 = .ok (.iconst 0, 1) := by decide +kernel
theorem dX5_get_23 : decode cX5_get 23 = .ok (.ireturn, 1) := by decide +kernel
theorem dX5_set_0 : decode cX5_set 0 = .ok (.iload_n 1, 1) := by decide +kernel
theorem dX5_set_1 : decode cX5_set 1 = .ok (.ifCond .lt 19, 3) := by decide +kernel
theorem dX5_set_4 : decode cX5_set 4 = .ok (.iload_n 1, 1) := by decide +kernel
theorem dX5_set_5 : decode cX5_set 5 = .ok (.aload_n 0, 1) := by decide +kernel
theorem dX5_set_6 : decode cX5_set 6 = .ok (.getfield 9, 3) := by decide +kernel
theorem dX5_set_9 : decode cX5_set 9 = .ok (.arraylength, 1) := by decide +kernel
theorem dX5_set_10 : decode cX5_set 10 = .ok (.if_icmp .ge 10, 3) := by decide +kernel
theorem dX5_set_13 : decode cX5_set 13 = .ok (.aload_n 0, 1) := by decide +kernel
theorem dX5_set_14 : decode cX5_set 14 = .ok (.getfield 9, 3) := by decide +kernel
theorem dX5_set_17 : decode cX5_set 17 = .ok (.iload_n 1, 1) := by decide +kernel
theorem dX5_set_18 : decode cX5_set 18 = .ok (.iload_n 2, 1) := by decide +kernel
theorem dX5_set_19 : decode cX5_set 19 = .ok (.iastore, 1) := by decide +kernel
theorem dX5_set_20 : decode cX5_set 20 = .ok (.return_, 1) := by decide +kernel
theorem dX5_of_0 : decode cX5_of 0 = .ok (.iload_n 1, 1) := by decide +kernel
theorem dX5_of_1 : decode cX5_of 1 = .ok (.bipush 16, 2) := by decide +kernel
theorem dX5_of_3 : decode cX5_of 3 = .ok (.imul, 1) := by decide +kernel
theorem dX5_of_4 : decode cX5_of 4 = .ok (.iload_n 2, 1) := by decide +kernel
theorem dX5_of_5 : decode cX5_of 5 = .ok (.iadd, 1) := by decide +kernel
theorem dX5_of_6 : decode cX5_of 6 = .ok (.istore_n 3, 1) := by decide +kernel
theorem dX5_of_7 : decode cX5_of 7 = .ok (.iload_n 3, 1) := by decide +kernel
theorem dX5_of_8 : decode cX5_of 8 = .ok (.ifCond .lt 21, 3) := by decide +kernel
theorem dX5_of_11 : decode cX5_of 11 = .ok (.iload_n 3, 1) := by decide +kernel
theorem dX5_of_12 : decode cX5_of 12 = .ok (.aload_n 0, 1) := by decide +kernel
theorem dX5_of_13 : decode cX5_of 13 = .ok (.getfield 9, 3) := by decide +kernel
theorem dX5_of_16 : decode cX5_of 16 = .ok (.arraylength, 1) := by decide +kernel
theorem dX5_of_17 : decode cX5_of 17 = .ok (.if_icmp .ge 12, 3) := by decide +kernel
theorem dX5_of_20 : decode cX5_of 20 = .ok (.aload_n 0, 1) := by decide +kernel
theorem dX5_of_21 : decode cX5_of 21 = .ok (.getfield 9, 3) := by decide +kernel
theorem dX5_of_24 : decode cX5_of 24 = .ok (.iload_n 3, 1) := by decide +kernel
theorem dX5_of_25 : decode cX5_of 25 = .ok (.iaload, 1) := by decide +kernel
theorem dX5_of_26 : decode cX5_of 26 = .ok (.goto 4, 3) := by decide +kernel
theorem dX5_of_29 : decode cX5_of 29 = .ok (.iconst 0, 1) := by decide +kernel
theorem dX5_of_30 : decode cX5_of 30 = .ok (.ireturn, 1) := by decide +kernel
theorem dX5_setOf_0 : decode cX5_setOf 0 = .ok (.aload_n 0, 1) := by decide +kernel
theorem dX5_setOf_1 : decode cX5_setOf 1 = .ok (.iload_n 1, 1) := by decide +kernel
theorem dX5_setOf_2 : decode cX5_setOf 2 = .ok (.bipush 16, 2) := by decide +kernel
theorem dX5_setOf_4 : decode cX5_setOf 4 = .ok (.imul, 1) := by decide +kernel
theorem dX5_setOf_5 : decode cX5_setOf 5 = .ok (.iload_n 2, 1) := by decide +kernel
theorem dX5_setOf_6 : decode cX5_setOf 6 = .ok (.iadd, 1) := by decide +kernel
theorem dX5_setOf_7 : decode cX5_setOf 7 = .ok (.iload_n 3, 1) := by decide +kernel
theorem dX5_setOf_8 : decode cX5_setOf 8 = .ok (.invokevirtual 19, 3) := by decide +kernel
theorem dX5_setOf_11 : decode cX5_setOf 11 = .ok (.return_, 1) := by decide +kernel
theorem dX5_copyFrom_0 : decode cX5_copyFrom 0 = .ok (.aload_n 1, 1) := by decide +kernel
theorem dX5_copyFrom_1 : decode cX5_copyFrom 1 = .ok (.getfield 9, 3) := by decide +kernel
theorem dX5_copyFrom_4 : decode cX5_copyFrom 4 = .ok (.iconst 0, 1) := by decide +kernel
theorem dX5_copyFrom_5 : decode cX5_copyFrom 5 = .ok (.aload_n 0, 1) := by decide +kernel
theorem dX5_copyFrom_6 : decode cX5_copyFrom 6 = .ok (.getfield 9, 3) := by decide +kernel
theorem dX5_copyFrom_9 : decode cX5_copyFrom 9 = .ok (.iconst 0, 1) := by decide +kernel
theorem dX5_copyFrom_10 : decode cX5_copyFrom 10 = .ok (.aload_n 0, 1) := by decide +kernel
theorem dX5_copyFrom_11 : decode cX5_copyFrom 11 = .ok (.getfield 9, 3) := by decide +kernel
theorem dX5_copyFrom_14 : decode cX5_copyFrom 14 = .ok (.arraylength, 1) := by decide +kernel
theorem dX5_copyFrom_15 : decode cX5_copyFrom 15 = .ok (.aload_n 1, 1) := by decide +kernel
theorem dX5_copyFrom_16 : decode cX5_copyFrom 16 = .ok (.getfield 9, 3) := by decide +kernel
theorem dX5_copyFrom_19 : decode cX5_copyFrom 19 = .ok (.arraylength, 1) := by decide +kernel
theorem dX5_copyFrom_20 : decode cX5_copyFrom 20 = .ok (.invokestatic 23, 3) := by decide +kernel
theorem dX5_copyFrom_23 : decode cX5_copyFrom 23 = .ok (.invokestatic 29, 3) := by decide +kernel
theorem dX5_copyFrom_26 : decode cX5_copyFrom 26 = .ok (.return_, 1) := by decide +kernel
theorem dX5_copyTo_0 : decode cX5_copyTo 0 = .ok (.iload_n 2, 1) := by decide +kernel
theorem dX5_copyTo_1 : decode cX5_copyTo 1 = .ok (.ifCond .lt 30, 3) := by decide +kernel
theorem dX5_copyTo_4 : decode cX5_copyTo 4 = .ok (.iload_n 2, 1) := by decide +kernel
theorem dX5_copyTo_5 : decode cX5_copyTo 5 = .ok (.aload_n 1, 1) := by decide +kernel
theorem dX5_copyTo_6 : decode cX5_copyTo 6 = .ok (.arraylength, 1) := by decide +kernel
theorem dX5_copyTo_7 : decode cX5_copyTo 7 = .ok (.aload_n 0, 1) := by decide +kernel
theorem dX5_copyTo_8 : decode cX5_copyTo 8 = .ok (.getfield 9, 3) := by decide +kernel
theorem dX5_copyTo_11 : decode cX5_copyTo 11 = .ok (.arraylength, 1) := by decide +kernel
theorem dX5_copyTo_12 : decode cX5_copyTo 12 = .ok (.isub, 1) := by decide +kernel
theorem dX5_copyTo_13 : decode cX5_copyTo 13 = .ok (.if_icmp .gt 18, 3) := by decide +kernel
theorem dX5_copyTo_16 : decode cX5_copyTo 16 = .ok (.aload_n 0, 1) := by decide +kernel
theorem dX5_copyTo_17 : decode cX5_copyTo 17 = .ok (.getfield 9, 3) := by decide +kernel
theorem dX5_copyTo_20 : decode cX5_copyTo 20 = .ok (.iconst 0, 1) := by decide +kernel
theorem dX5_copyTo_21 : decode cX5_copyTo 21 = .ok (.aload_n 1, 1) := by decide +kernel
theorem dX5_copyTo_22 : decode cX5_copyTo 22 = .ok (.iload_n 2, 1) := by decide +kernel
theorem dX5_copyTo_23 : decode cX5_copyTo 23 = .ok (.aload_n 0, 1) := by decide +kernel
theorem dX5_copyTo_24 : decode cX5_copyTo 24 = .ok (.getfield 9, 3) := by decide +kernel
theorem dX5_copyTo_27 : decode cX5_copyTo 27 = .ok (.arraylength, 1) := by decide +kernel
theorem dX5_copyTo_28 : decode cX5_copyTo 28 = .ok (.invokestatic 29, 3) := by decide +kernel
theorem dX5_copyTo_31 : decode cX5_copyTo 31 = .ok (.return_, 1) := by decide +kernel
theorem dX5_copyBack_0 : decode cX5_copyBack 0 = .ok (.iload_n 2, 1) := by decide +kernel
theorem dX5_copyBack_1 : decode cX5_copyBack 1 = .ok (.ifCond .lt 30, 3) := by decide +kernel
theorem dX5_copyBack_4 : decode cX5_copyBack 4 = .ok (.iload_n 2, 1) := by decide +kernel
theorem dX5_copyBack_5 : decode cX5_copyBack 5 = .ok (.aload_n 1, 1) := by decide +kernel
theorem dX5_copyBack_6 : decode cX5_copyBack 6 = .ok (.arraylength, 1) := by decide +kernel
theorem dX5_copyBack_7 : decode cX5_copyBack 7 = .ok (.aload_n 0, 1) := by decide +kernel
theorem dX5_copyBack_8 : decode cX5_copyBack 8 = .ok (.getfield 9, 3) := by decide +kernel
theorem dX5_copyBack_11 : decode cX5_copyBack 11 = .ok (.arraylength, 1) := by decide +kernel
theorem dX5_copyBack_12 : decode cX5_copyBack 12 = .ok (.isub, 1) := by decide +kernel
theorem dX5_copyBack_13 : decode cX5_copyBack 13 = .ok (.if_icmp .gt 18, 3) := by decide +kernel
theorem dX5_copyBack_16 : decode cX5_copyBack 16 = .ok (.aload_n 1, 1) := by decide +kernel
theorem dX5_copyBack_17 : decode cX5_copyBack 17 = .ok (.iload_n 2, 1) := by decide +kernel
theorem dX5_copyBack_18 : decode cX5_copyBack 18 = .ok (.aload_n 0, 1) := by decide +kernel
theorem dX5_copyBack_19 : decode cX5_copyBack 19 = .ok (.getfield 9, 3) := by decide +kernel
theorem dX5_copyBack_22 : decode cX5_copyBack 22 = .ok (.iconst 0, 1) := by decide +kernel
theorem dX5_copyBack_23 : decode cX5_copyBack 23 = .ok (.aload_n 0, 1) := by decide +kernel
theorem dX5_copyBack_24 : decode cX5_copyBack 24 = .ok (.getfield 9, 3) := by decide +kernel
theorem dX5_copyBack_27 : decode cX5_copyBack 27 = .ok (.arraylength, 1) := by decide +kernel
theorem dX5_copyBack_28 : decode cX5_copyBack 28 = .ok (.invokestatic 29, 3) := by decide +kernel
theorem dX5_copyBack_31 : decode cX5_copyBack 31 = .ok (.return_, 1) := by decide +kernel
theorem dX5_isBrother_0 : decode cX5_isBrother 0 = .ok (.iload_n 1, 1) := by decide +kernel
theorem dX5_isBrother_1 : decode cX5_isBrother 1 = .ok (.ifCond .lt 18, 3) := by decide +kernel
theorem dX5_isBrother_4 : decode cX5_isBrother 4 = .ok (.iload_n 1, 1) := by decide +kernel
theorem dX5_isBrother_5 : decode cX5_isBrother 5 = .ok (.aload_n 0, 1) := by decide +kernel
theorem dX5_isBrother_6 : decode cX5_isBrother 6 = .ok (.sipush 284, 3) := by decide +kernel
theorem dX5_isBrother_9 : decode cX5_isBrother 9 = .ok (.invokevirtual 35, 3) := by decide +kernel
theorem dX5_isBrother_12 : decode cX5_isBrother 12 = .ok (.if_icmp .ge 7, 3) := by decide +kernel
theorem dX5_isBrother_15 : decode cX5_isBrother 15 = .ok (.iconst 1, 1) := by decide +kernel
theorem dX5_isBrother_16 : decode cX5_isBrother 16 = .ok (.goto 4, 3) := by decide +kernel
theorem dX5_isBrother_19 : decode cX5_isBrother 19 = .ok (.iconst 0, 1) := by decide +kernel
theorem dX5_isBrother_20 : decode cX5_isBrother 20 = .ok (.ireturn, 1) := by decide +kernel
theorem dX5_is_0 : decode cX5_is 0 = .ok (.aload_n 0, 1) := by decide +kernel
theorem dX5_is_1 : decode cX5_is 1 = .ok (.iconst 2, 1) := by decide +kernel
theorem dX5_is_2 : decode cX5_is 2 = .ok (.iload_n 2, 1) := by decide +kernel
theorem dX5_is_3 : decode cX5_is 3 = .ok (.invokevirtual 39, 3) := by decide +kernel
theorem dX5_is_6 : decode cX5_is 6 = .ok (.iload_n 1, 1) := by decide +kernel
theorem dX5_is_7 : decode cX5_is 7 = .ok (.if_icmp .ne 7, 3) := by decide +kernel
theorem dX5_is_10 : decode cX5_is 10 = .ok (.iconst 1, 1) := by decide +kernel
theorem dX5_is_11 : decode cX5_is 11 = .ok (.goto 4, 3) := by decide +kernel
theorem dX5_is_14 : decode cX5_is 14 = .ok (.iconst 0, 1) := by decide +kernel
theorem dX5_is_15 : decode cX5_is 15 = .ok (.ireturn, 1) := by decide +kernel
theorem dX5_isEntitled_0 : decode cX5_isEntitled 0 = .ok (.aload_n 0, 1) := by decide +kernel
theorem dX5_isEntitled_1 : decode cX5_isEntitled 1 = .ok (.iconst 2, 1) := by decide +kernel
theorem dX5_isEntitled_2 : decode cX5_isEntitled 2 = .ok (.iload_n 1, 1) := by decide +kernel
theorem dX5_isEntitled_3 : decode cX5_isEntitled 3 = .ok (.invokevirtual 39, 3) := by decide +kernel
theorem dX5_isEntitled_6 : decode cX5_isEntitled 6 = .ok (.iconst 1, 1) := by decide +kernel
theorem dX5_isEntitled_7 : decode cX5_isEntitled 7 = .ok (.if_icmp .ne 16, 3) := by decide +kernel
theorem dX5_isEntitled_10 : decode cX5_isEntitled 10 = .ok (.aload_n 0, 1) := by decide +kernel
theorem dX5_isEntitled_11 : decode cX5_isEntitled 11 = .ok (.iconst 5, 1) := by decide +kernel
theorem dX5_isEntitled_12 : decode cX5_isEntitled 12 = .ok (.iload_n 1, 1) := by decide +kernel
theorem dX5_isEntitled_13 : decode cX5_isEntitled 13 = .ok (.invokevirtual 39, 3) := by decide +kernel
theorem dX5_isEntitled_16 : decode cX5_isEntitled 16 = .ok (.ifCond .ne 7, 3) := by decide +kernel
theorem dX5_isEntitled_19 : decode cX5_isEntitled 19 = .ok (.iconst 1, 1) := by decide +kernel
theorem dX5_isEntitled_20 : decode cX5_isEntitled 20 = .ok (.goto 4, 3) := by decide +kernel
theorem dX5_isEntitled_23 : decode cX5_isEntitled 23 = .ok (.iconst 0, 1) := by decide +kernel
theorem dX5_isEntitled_24 : decode cX5_isEntitled 24 = .ok (.ireturn, 1) := by decide +kernel
theorem dX5_howMany_0 : decode cX5_howMany 0 = .ok (.iconst 0, 1) := by decide +kernel
theorem dX5_howMany_1 : decode cX5_howMany 1 = .ok (.istore_n 2, 1) := by decide +kernel
theorem dX5_howMany_2 : decode cX5_howMany 2 = .ok (.iconst 0, 1) := by decide +kernel
theorem dX5_howMany_3 : decode cX5_howMany 3 = .ok (.istore_n 3, 1) := by decide +kernel
theorem dX5_howMany_4 : decode cX5_howMany 4 = .ok (.iload_n 3, 1) := by decide +kernel
theorem dX5_howMany_5 : decode cX5_howMany 5 = .ok (.bipush 16, 2) := by decide +kernel
theorem dX5_howMany_7 : decode cX5_howMany 7 = .ok (.if_icmp .ge 21, 3) := by decide +kernel
theorem dX5_howMany_10 : decode cX5_howMany 10 = .ok (.aload_n 0, 1) := by decide +kernel
theorem dX5_howMany_11 : decode cX5_howMany 11 = .ok (.iload_n 1, 1) := by decide +kernel
theorem dX5_howMany_12 : decode cX5_howMany 12 = .ok (.iload_n 3, 1) := by decide +kernel
theorem dX5_howMany_13 : decode cX5_howMany 13 = .ok (.invokevirtual 42, 3) := by decide +kernel
theorem dX5_howMany_16 : decode cX5_howMany 16 = .ok (.ifCond .eq 6, 3) := by decide +kernel
theorem dX5_howMany_19 : decode cX5_howMany 19 = .ok (.iinc 2 1, 3) := by decide +kernel
theorem dX5_howMany_22 : decode cX5_howMany 22 = .ok (.iinc 3 1, 3) := by decide +kernel
theorem dX5_howMany_25 : decode cX5_howMany 25 = .ok (.goto (-21), 3) := by decide +kernel
theorem dX5_howMany_28 : decode cX5_howMany 28 = .ok (.iload_n 2, 1) := by decide +kernel
theorem dX5_howMany_29 : decode cX5_howMany 29 = .ok (.ireturn, 1) := by decide +kernel
theorem dX5_entitledMany_0 : decode cX5_entitledMany 0 = .ok (.iconst 0, 1) := by decide +kernel
theorem dX5_entitledMany_1 : decode cX5_entitledMany 1 = .ok (.istore_n 1, 1) := by decide +kernel
theorem dX5_entitledMany_2 : decode cX5_entitledMany 2 = .ok (.iconst 0, 1) := by decide +kernel
theorem dX5_entitledMany_3 : decode cX5_entitledMany 3 = .ok (.istore_n 2, 1) := by decide +kernel
theorem dX5_entitledMany_4 : decode cX5_entitledMany 4 = .ok (.iload_n 2, 1) := by decide +kernel
theorem dX5_entitledMany_5 : decode cX5_entitledMany 5 = .ok (.bipush 16, 2) := by decide +kernel
theorem dX5_entitledMany_7 : decode cX5_entitledMany 7 = .ok (.if_icmp .ge 20, 3) := by decide +kernel
theorem dX5_entitledMany_10 : decode cX5_entitledMany 10 = .ok (.aload_n 0, 1) := by decide +kernel
theorem dX5_entitledMany_11 : decode cX5_entitledMany 11 = .ok (.iload_n 2, 1) := by decide +kernel
theorem dX5_entitledMany_12 : decode cX5_entitledMany 12 = .ok (.invokevirtual 46, 3) := by decide +kernel
theorem dX5_entitledMany_15 : decode cX5_entitledMany 15 = .ok (.ifCond .eq 6, 3) := by decide +kernel
theorem dX5_entitledMany_18 : decode cX5_entitledMany 18 = .ok (.iinc 1 1, 3) := by decide +kernel
theorem dX5_entitledMany_21 : decode cX5_entitledMany 21 = .ok (.iinc 2 1, 3) := by decide +kernel
theorem dX5_entitledMany_24 : decode cX5_entitledMany 24 = .ok (.goto (-20), 3) := by decide +kernel
theorem dX5_entitledMany_27 : decode cX5_entitledMany 27 = .ok (.iload_n 1, 1) := by decide +kernel
theorem dX5_entitledMany_28 : decode cX5_entitledMany 28 = .ok (.ireturn, 1) := by decide +kernel
theorem dX5_voicesFor_0 : decode cX5_voicesFor 0 = .ok (.iconst 0, 1) := by decide +kernel
theorem dX5_voicesFor_1 : decode cX5_voicesFor 1 = .ok (.istore_n 2, 1) := by decide +kernel
theorem dX5_voicesFor_2 : decode cX5_voicesFor 2 = .ok (.iconst 0, 1) := by decide +kernel
theorem dX5_voicesFor_3 : decode cX5_voicesFor 3 = .ok (.istore_n 3, 1) := by decide +kernel
theorem dX5_voicesFor_4 : decode cX5_voicesFor 4 = .ok (.iload_n 3, 1) := by decide +kernel
theorem dX5_voicesFor_5 : decode cX5_voicesFor 5 = .ok (.bipush 16, 2) := by decide +kernel
theorem dX5_voicesFor_7 : decode cX5_voicesFor 7 = .ok (.if_icmp .ge 23, 3) := by decide +kernel
theorem dX5_voicesFor_10 : decode cX5_voicesFor 10 = .ok (.aload_n 0, 1) := by decide +kernel
theorem dX5_voicesFor_11 : decode cX5_voicesFor 11 = .ok (.bipush 7, 2) := by decide +kernel
theorem dX5_voicesFor_13 : decode cX5_voicesFor 13 = .ok (.iload_n 3, 1) := by decide +kernel
theorem dX5_voicesFor_14 : decode cX5_voicesFor 14 = .ok (.invokevirtual 39, 3) := by decide +kernel
theorem dX5_voicesFor_17 : decode cX5_voicesFor 17 = .ok (.iload_n 1, 1) := by decide +kernel
theorem dX5_voicesFor_18 : decode cX5_voicesFor 18 = .ok (.if_icmp .ne 6, 3) := by decide +kernel
theorem dX5_voicesFor_21 : decode cX5_voicesFor 21 = .ok (.iinc 2 1, 3) := by decide +kernel
theorem dX5_voicesFor_24 : decode cX5_voicesFor 24 = .ok (.iinc 3 1, 3) := by decide +kernel
theorem dX5_voicesFor_27 : decode cX5_voicesFor 27 = .ok (.goto (-23), 3) := by decide +kernel
theorem dX5_voicesFor_30 : decode cX5_voicesFor 30 = .ok (.aload_n 0, 1) := by decide +kernel
theorem dX5_voicesFor_31 : decode cX5_voicesFor 31 = .ok (.iconst 1, 1) := by decide +kernel
theorem dX5_voicesFor_32 : decode cX5_voicesFor 32 = .ok (.iload_n 1, 1) := by decide +kernel
theorem dX5_voicesFor_33 : decode cX5_voicesFor 33 = .ok (.invokevirtual 39, 3) := by decide +kernel
theorem dX5_voicesFor_36 : decode cX5_voicesFor 36 = .ok (.iconst 1, 1) := by decide +kernel
theorem dX5_voicesFor_37 : decode cX5_voicesFor 37 = .ok (.if_icmp .ne 9, 3) := by decide +kernel
theorem dX5_voicesFor_40 : decode cX5_voicesFor 40 = .ok (.iconst 2, 1) := by decide +kernel
theorem dX5_voicesFor_41 : decode cX5_voicesFor 41 = .ok (.iload_n 2, 1) := by decide +kernel
theorem dX5_voicesFor_42 : decode cX5_voicesFor 42 = .ok (.imul, 1) := by decide +kernel
theorem dX5_voicesFor_43 : decode cX5_voicesFor 43 = .ok (.goto 4, 3) := by decide +kernel
theorem dX5_voicesFor_46 : decode cX5_voicesFor 46 = .ok (.iload_n 2, 1) := by decide +kernel
theorem dX5_voicesFor_47 : decode cX5_voicesFor 47 = .ok (.ireturn, 1) := by decide +kernel
theorem dX5_pittanceIn_0 : decode cX5_pittanceIn 0 = .ok (.iload_n 1, 1) := by decide +kernel
theorem dX5_pittanceIn_1 : decode cX5_pittanceIn 1 = .ok (.ifCond .lt 21, 3) := by decide +kernel
theorem dX5_pittanceIn_4 : decode cX5_pittanceIn 4 = .ok (.iload_n 1, 1) := by decide +kernel
theorem dX5_pittanceIn_5 : decode cX5_pittanceIn 5 = .ok (.bipush 52, 2) := by decide +kernel
theorem dX5_pittanceIn_7 : decode cX5_pittanceIn 7 = .ok (.if_icmp .ge 15, 3) := by decide +kernel
theorem dX5_pittanceIn_10 : decode cX5_pittanceIn 10 = .ok (.aload_n 0, 1) := by decide +kernel
theorem dX5_pittanceIn_11 : decode cX5_pittanceIn 11 = .ok (.sipush 232, 3) := by decide +kernel
theorem dX5_pittanceIn_14 : decode cX5_pittanceIn 14 = .ok (.iload_n 1, 1) := by decide +kernel
theorem dX5_pittanceIn_15 : decode cX5_pittanceIn 15 = .ok (.iadd, 1) := by decide +kernel
theorem dX5_pittanceIn_16 : decode cX5_pittanceIn 16 = .ok (.invokevirtual 35, 3) := by decide +kernel
theorem dX5_pittanceIn_19 : decode cX5_pittanceIn 19 = .ok (.goto 4, 3) := by decide +kernel
theorem dX5_pittanceIn_22 : decode cX5_pittanceIn 22 = .ok (.iconst 0, 1) := by decide +kernel
theorem dX5_pittanceIn_23 : decode cX5_pittanceIn 23 = .ok (.ireturn, 1) := by decide +kernel
theorem dX5_feastsTold_0 : decode cX5_feastsTold 0 = .ok (.iconst 0, 1) := by decide +kernel
theorem dX5_feastsTold_1 : decode cX5_feastsTold 1 = .ok (.istore_n 1, 1) := by decide +kernel
theorem dX5_feastsTold_2 : decode cX5_feastsTold 2 = .ok (.iconst 0, 1) := by decide +kernel
theorem dX5_feastsTold_3 : decode cX5_feastsTold 3 = .ok (.istore_n 2, 1) := by decide +kernel
theorem dX5_feastsTold_4 : decode cX5_feastsTold 4 = .ok (.iload_n 2, 1) := by decide +kernel
theorem dX5_feastsTold_5 : decode cX5_feastsTold 5 = .ok (.bipush 52, 2) := by decide +kernel
theorem dX5_feastsTold_7 : decode cX5_feastsTold 7 = .ok (.if_icmp .ge 20, 3) := by decide +kernel
theorem dX5_feastsTold_10 : decode cX5_feastsTold 10 = .ok (.aload_n 0, 1) := by decide +kernel
theorem dX5_feastsTold_11 : decode cX5_feastsTold 11 = .ok (.iload_n 2, 1) := by decide +kernel
theorem dX5_feastsTold_12 : decode cX5_feastsTold 12 = .ok (.invokevirtual 50, 3) := by decide +kernel
theorem dX5_feastsTold_15 : decode cX5_feastsTold 15 = .ok (.ifCond .le 6, 3) := by decide +kernel
theorem dX5_feastsTold_18 : decode cX5_feastsTold 18 = .ok (.iinc 1 1, 3) := by decide +kernel
theorem dX5_feastsTold_21 : decode cX5_feastsTold 21 = .ok (.iinc 2 1, 3) := by decide +kernel
theorem dX5_feastsTold_24 : decode cX5_feastsTold 24 = .ok (.goto (-20), 3) := by decide +kernel
theorem dX5_feastsTold_27 : decode cX5_feastsTold 27 = .ok (.iload_n 1, 1) := by decide +kernel
theorem dX5_feastsTold_28 : decode cX5_feastsTold 28 = .ok (.ireturn, 1) := by decide +kernel
theorem dX5_takeIn_0 : decode cX5_takeIn 0 = .ok (.iload_n 1, 1) := by decide +kernel
theorem dX5_takeIn_1 : decode cX5_takeIn 1 = .ok (.sipush 9999, 3) := by decide +kernel
theorem dX5_takeIn_4 : decode cX5_takeIn 4 = .ok (.aload_n 0, 1) := by decide +kernel
theorem dX5_takeIn_5 : decode cX5_takeIn 5 = .ok (.sipush 288, 3) := by decide +kernel
theorem dX5_takeIn_8 : decode cX5_takeIn 8 = .ok (.invokevirtual 35, 3) := by decide +kernel
theorem dX5_takeIn_11 : decode cX5_takeIn 11 = .ok (.isub, 1) := by decide +kernel
theorem dX5_takeIn_12 : decode cX5_takeIn 12 = .ok (.invokestatic 23, 3) := by decide +kernel
theorem dX5_takeIn_15 : decode cX5_takeIn 15 = .ok (.istore_n 2, 1) := by decide +kernel
theorem dX5_takeIn_16 : decode cX5_takeIn 16 = .ok (.aload_n 0, 1) := by decide +kernel
theorem dX5_takeIn_17 : decode cX5_takeIn 17 = .ok (.sipush 288, 3) := by decide +kernel
theorem dX5_takeIn_20 : decode cX5_takeIn 20 = .ok (.aload_n 0, 1) := by decide +kernel
theorem dX5_takeIn_21 : decode cX5_takeIn 21 = .ok (.sipush 288, 3) := by decide +kernel
theorem dX5_takeIn_24 : decode cX5_takeIn 24 = .ok (.invokevirtual 35, 3) := by decide +kernel
theorem dX5_takeIn_27 : decode cX5_takeIn 27 = .ok (.iload_n 2, 1) := by decide +kernel
theorem dX5_takeIn_28 : decode cX5_takeIn 28 = .ok (.iadd, 1) := by decide +kernel
theorem dX5_takeIn_29 : decode cX5_takeIn 29 = .ok (.invokevirtual 19, 3) := by decide +kernel
theorem dX5_takeIn_32 : decode cX5_takeIn 32 = .ok (.aload_n 0, 1) := by decide +kernel
theorem dX5_takeIn_33 : decode cX5_takeIn 33 = .ok (.sipush 289, 3) := by decide +kernel
theorem dX5_takeIn_36 : decode cX5_takeIn 36 = .ok (.aload_n 0, 1) := by decide +kernel
theorem dX5_takeIn_37 : decode cX5_takeIn 37 = .ok (.sipush 289, 3) := by decide +kernel
theorem dX5_takeIn_40 : decode cX5_takeIn 40 = .ok (.invokevirtual 35, 3) := by decide +kernel
theorem dX5_takeIn_43 : decode cX5_takeIn 43 = .ok (.iload_n 2, 1) := by decide +kernel
theorem dX5_takeIn_44 : decode cX5_takeIn 44 = .ok (.iadd, 1) := by decide +kernel
theorem dX5_takeIn_45 : decode cX5_takeIn 45 = .ok (.invokevirtual 19, 3) := by decide +kernel
theorem dX5_takeIn_48 : decode cX5_takeIn 48 = .ok (.return_, 1) := by decide +kernel
theorem dX6_init_0 : decode cX6_init 0 = .ok (.aload_n 0, 1) := by decide +kernel
theorem dX6_init_1 : decode cX6_init 1 = .ok (.invokespecial 3, 3) := by decide +kernel
theorem dX6_init_4 : decode cX6_init 4 = .ok (.aload_n 0, 1) := by decide +kernel
theorem dX6_init_5 : decode cX6_init 5 = .ok (.new 9, 3) := by decide +kernel
theorem dX6_init_8 : decode cX6_init 8 = .ok (.dup, 1) := by decide +kernel
theorem dX6_init_9 : decode cX6_init 9 = .ok (.invokespecial 11, 3) := by decide +kernel
theorem dX6_init_12 : decode cX6_init 12 = .ok (.putfield 12, 3) := by decide +kernel
theorem dX6_init_15 : decode cX6_init 15 = .ok (.aload_n 0, 1) := by decide +kernel
theorem dX6_init_16 : decode cX6_init 16 = .ok (.new 9, 3) := by decide +kernel
theorem dX6_init_19 : decode cX6_init 19 = .ok (.dup, 1) := by decide +kernel
theorem dX6_init_20 : decode cX6_init 20 = .ok (.invokespecial 11, 3) := by decide +kernel
theorem dX6_init_23 : decode cX6_init 23 = .ok (.putfield 16, 3) := by decide +kernel
theorem dX6_init_26 : decode cX6_init 26 = .ok (.aload_n 0, 1) := by decide +kernel
theorem dX6_init_27 : decode cX6_init 27 = .ok (.new 19, 3) := by decide +kernel
theorem dX6_init_30 : decode cX6_init 30 = .ok (.dup, 1) := by decide +kernel
theorem dX6_init_31 : decode cX6_init 31 = .ok (.invokespecial 21, 3) := by decide +kernel
theorem dX6_init_34 : decode cX6_init 34 = .ok (.putfield 22, 3) := by decide +kernel
theorem dX6_init_37 : decode cX6_init 37 = .ok (.aload_n 0, 1) := by decide +kernel
theorem dX6_init_38 : decode cX6_init 38 = .ok (.new 26, 3) := by decide +kernel
theorem dX6_init_41 : decode cX6_init 41 = .ok (.dup, 1) := by decide +kernel
theorem dX6_init_42 : decode cX6_init 42 = .ok (.invokespecial 28, 3) := by decide +kernel
theorem dX6_init_45 : decode cX6_init 45 = .ok (.putfield 29, 3) := by decide +kernel
theorem dX6_init_48 : decode cX6_init 48 = .ok (.aload_n 0, 1) := by decide +kernel
theorem dX6_init_49 : decode cX6_init 49 = .ok (.new 33, 3) := by decide +kernel
theorem dX6_init_52 : decode cX6_init 52 = .ok (.dup, 1) := by decide +kernel
theorem dX6_init_53 : decode cX6_init 53 = .ok (.invokespecial 35, 3) := by decide +kernel
theorem dX6_init_56 : decode cX6_init 56 = .ok (.putfield 36, 3) := by decide +kernel
theorem dX6_init_59 : decode cX6_init 59 = .ok (.aload_n 0, 1) := by decide +kernel
theorem dX6_init_60 : decode cX6_init 60 = .ok (.new 40, 3) := by decide +kernel
theorem dX6_init_63 : decode cX6_init 63 = .ok (.dup, 1) := by decide +kernel
theorem dX6_init_64 : decode cX6_init 64 = .ok (.invokespecial 42, 3) := by decide +kernel
theorem dX6_init_67 : decode cX6_init 67 = .ok (.putfield 43, 3) := by decide +kernel
theorem dX6_init_70 : decode cX6_init 70 = .ok (.aload_n 0, 1) := by decide +kernel
theorem dX6_init_71 : decode cX6_init 71 = .ok (.new 47, 3) := by decide +kernel
theorem dX6_init_74 : decode cX6_init 74 = .ok (.dup, 1) := by decide +kernel
theorem dX6_init_75 : decode cX6_init 75 = .ok (.bipush 60, 2) := by decide +kernel
theorem dX6_init_77 : decode cX6_init 77 = .ok (.invokespecial 49, 3) := by decide +kernel
theorem dX6_init_80 : decode cX6_init 80 = .ok (.putfield 52, 3) := by decide +kernel
theorem dX6_init_83 : decode cX6_init 83 = .ok (.aload_n 0, 1) := by decide +kernel
theorem dX6_init_84 : decode cX6_init 84 = .ok (.new 47, 3) := by decide +kernel
theorem dX6_init_87 : decode cX6_init 87 = .ok (.dup, 1) := by decide +kernel
theorem dX6_init_88 : decode cX6_init 88 = .ok (.sipush 128, 3) := by decide +kernel
theorem dX6_init_91 : decode cX6_init 91 = .ok (.invokespecial 49, 3) := by decide +kernel
theorem dX6_init_94 : decode cX6_init 94 = .ok (.putfield 56, 3) := by decide +kernel
theorem dX6_init_97 : decode cX6_init 97 = .ok (.aload_n 0, 1) := by decide +kernel
theorem dX6_init_98 : decode cX6_init 98 = .ok (.bipush 16, 2) := by decide +kernel
theorem dX6_init_100 : decode cX6_init 100 = .ok (.newarray .int, 2) := by decide +kernel
theorem dX6_init_102 : decode cX6_init 102 = .ok (.putfield 59, 3) := by decide +kernel
theorem dX6_init_105 : decode cX6_init 105 = .ok (.aload_n 0, 1) := by decide +kernel
theorem dX6_init_106 : decode cX6_init 106 = .ok (.iconst 0, 1) := by decide +kernel
theorem dX6_init_107 : decode cX6_init 107 = .ok (.putfield 63, 3) := by decide +kernel
theorem dX6_init_110 : decode cX6_init 110 = .ok (.aload_n 0, 1) := by decide +kernel
theorem dX6_init_111 : decode cX6_init 111 = .ok (.iconst 0, 1) := by decide +kernel
theorem dX6_init_112 : decode cX6_init 112 = .ok (.putfield 67, 3) := by decide +kernel
theorem dX6_init_115 : decode cX6_init 115 = .ok (.aload_n 0, 1) := by decide +kernel
theorem dX6_init_116 : decode cX6_init 116 = .ok (.iconst 0, 1) := by decide +kernel
theorem dX6_init_117 : decode cX6_init 117 = .ok (.putfield 71, 3) := by decide +kernel
theorem dX6_init_120 : decode cX6_init 120 = .ok (.return_, 1) := by decide +kernel
theorem dX6_come_0 : decode cX6_come 0 = .ok (.aload_n 0, 1) := by decide +kernel
theorem dX6_come_1 : decode cX6_come 1 = .ok (.aload_n 0, 1) := by decide +kernel
theorem dX6_come_2 : decode cX6_come 2 = .ok (.invokevirtual 74, 3) := by decide +kernel
theorem dX6_come_5 : decode cX6_come 5 = .ok (.iload_n 1, 1) := by decide +kernel
theorem dX6_come_6 : decode cX6_come 6 = .ok (.iload_n 2, 1) := by decide +kernel
theorem dX6_come_7 : decode cX6_come 7 = .ok (.invokevirtual 78, 3) := by decide +kernel
theorem dX6_come_10 : decode cX6_come 10 = .ok (.invokevirtual 82, 3) := by decide +kernel
theorem dX6_come_13 : decode cX6_come 13 = .ok (.ireturn, 1) := by decide +kernel
theorem dX6_withdraw_0 : decode cX6_withdraw 0 = .ok (.aload_n 0, 1) := by decide +kernel
theorem dX6_withdraw_1 : decode cX6_withdraw 1 = .ok (.aload_n 0, 1) := by decide +kernel
theorem dX6_withdraw_2 : decode cX6_withdraw 2 = .ok (.invokevirtual 74, 3) := by decide +kernel
theorem dX6_withdraw_5 : decode cX6_withdraw 5 = .ok (.iload_n 1, 1) := by decide +kernel
theorem dX6_withdraw_6 : decode cX6_withdraw 6 = .ok (.invokevirtual 86, 3) := by decide +kernel
theorem dX6_withdraw_9 : decode cX6_withdraw 9 = .ok (.invokevirtual 82, 3) := by decide +kernel
theorem dX6_withdraw_12 : decode cX6_withdraw 12 = .ok (.ireturn, 1) := by decide +kernel
theorem dX6_voice_0 : decode cX6_voice 0 = .ok (.aload_n 0, 1) := by decide +kernel
theorem dX6_voice_1 : decode cX6_voice 1 = .ok (.aload_n 0, 1) := by decide +kernel
theorem dX6_voice_2 : decode cX6_voice 2 = .ok (.invokevirtual 74, 3) := by decide +kernel
theorem dX6_voice_5 : decode cX6_voice 5 = .ok (.iload_n 1, 1) := by decide +kernel
theorem dX6_voice_6 : decode cX6_voice 6 = .ok (.iload_n 2, 1) := by decide +kernel
theorem dX6_voice_7 : decode cX6_voice 7 = .ok (.invokevirtual 89, 3) := by decide +kernel
theorem dX6_voice_10 : decode cX6_voice 10 = .ok (.invokevirtual 82, 3) := by decide +kernel
theorem dX6_voice_13 : decode cX6_voice 13 = .ok (.ireturn, 1) := by decide +kernel
theorem dX6_choose_0 : decode cX6_choose 0 = .ok (.aload_n 0, 1) := by decide +kernel
theorem dX6_choose_1 : decode cX6_choose 1 = .ok (.aload_n 0, 1) := by decide +kernel
theorem dX6_choose_2 : decode cX6_choose 2 = .ok (.invokevirtual 74, 3) := by decide +kernel
theorem dX6_choose_5 : decode cX6_choose 5 = .ok (.iload_n 1, 1) := by decide +kernel
theorem dX6_choose_6 : decode cX6_choose 6 = .ok (.invokevirtual 93, 3) := by decide +kernel
theorem dX6_choose_9 : decode cX6_choose 9 = .ok (.invokevirtual 82, 3) := by decide +kernel
theorem dX6_choose_12 : decode cX6_choose 12 = .ok (.ireturn, 1) := by decide +kernel
theorem dX6_leave_0 : decode cX6_leave 0 = .ok (.aload_n 0, 1) := by decide +kernel
theorem dX6_leave_1 : decode cX6_leave 1 = .ok (.aload_n 0, 1) := by decide +kernel
theorem dX6_leave_2 : decode cX6_leave 2 = .ok (.invokevirtual 74, 3) := by decide +kernel
theorem dX6_leave_5 : decode cX6_leave 5 = .ok (.iload_n 1, 1) := by decide +kernel
theorem dX6_leave_6 : decode cX6_leave 6 = .ok (.invokevirtual 96, 3) := by decide +kernel
theorem dX6_leave_9 : decode cX6_leave 9 = .ok (.invokevirtual 82, 3) := by decide +kernel
theorem dX6_leave_12 : decode cX6_leave 12 = .ok (.ireturn, 1) := by decide +kernel
theorem dX6_feast_0 : decode cX6_feast 0 = .ok (.aload_n 0, 1) := by decide +kernel
theorem dX6_feast_1 : decode cX6_feast 1 = .ok (.aload_n 0, 1) := by decide +kernel
theorem dX6_feast_2 : decode cX6_feast 2 = .ok (.invokevirtual 74, 3) := by decide +kernel
theorem dX6_feast_5 : decode cX6_feast 5 = .ok (.iload_n 1, 1) := by decide +kernel
theorem dX6_feast_6 : decode cX6_feast 6 = .ok (.iload_n 2, 1) := by decide +kernel
theorem dX6_feast_7 : decode cX6_feast 7 = .ok (.invokevirtual 99, 3) := by decide +kernel
theorem dX6_feast_10 : decode cX6_feast 10 = .ok (.invokevirtual 82, 3) := by decide +kernel
theorem dX6_feast_13 : decode cX6_feast 13 = .ok (.ireturn, 1) := by decide +kernel
theorem dX6_breach_0 : decode cX6_breach 0 = .ok (.aload_n 0, 1) := by decide +kernel
theorem dX6_breach_1 : decode cX6_breach 1 = .ok (.aload_n 0, 1) := by decide +kernel
theorem dX6_breach_2 : decode cX6_breach 2 = .ok (.invokevirtual 74, 3) := by decide +kernel
theorem dX6_breach_5 : decode cX6_breach 5 = .ok (.iload_n 1, 1) := by decide +kernel
theorem dX6_breach_6 : decode cX6_breach 6 = .ok (.iload_n 2, 1) := by decide +kernel
theorem dX6_breach_7 : decode cX6_breach 7 = .ok (.invokevirtual 102, 3) := by decide +kernel
theorem dX6_breach_10 : decode cX6_breach 10 = .ok (.invokevirtual 82, 3) := by decide +kernel
theorem dX6_breach_13 : decode cX6_breach 13 = .ok (.ireturn, 1) := by decide +kernel
theorem dX6_pardon_0 : decode cX6_pardon 0 = .ok (.aload_n 0, 1) := by decide +kernel
theorem dX6_pardon_1 : decode cX6_pardon 1 = .ok (.aload_n 0, 1) := by decide +kernel
theorem dX6_pardon_2 : decode cX6_pardon 2 = .ok (.invokevirtual 74, 3) := by decide +kernel
theorem dX6_pardon_5 : decode cX6_pardon 5 = .ok (.iload_n 1, 1) := by decide +kernel
theorem dX6_pardon_6 : decode cX6_pardon 6 = .ok (.invokevirtual 105, 3) := by decide +kernel
theorem dX6_pardon_9 : decode cX6_pardon 9 = .ok (.invokevirtual 82, 3) := by decide +kernel
theorem dX6_pardon_12 : decode cX6_pardon 12 = .ok (.ireturn, 1) := by decide +kernel
theorem dX6_gift_0 : decode cX6_gift 0 = .ok (.aload_n 0, 1) := by decide +kernel
theorem dX6_gift_1 : decode cX6_gift 1 = .ok (.aload_n 0, 1) := by decide +kernel
theorem dX6_gift_2 : decode cX6_gift 2 = .ok (.invokevirtual 74, 3) := by decide +kernel
theorem dX6_gift_5 : decode cX6_gift 5 = .ok (.iload_n 1, 1) := by decide +kernel
theorem dX6_gift_6 : decode cX6_gift 6 = .ok (.invokevirtual 108, 3) := by decide +kernel
theorem dX6_gift_9 : decode cX6_gift 9 = .ok (.invokevirtual 82, 3) := by decide +kernel
theorem dX6_gift_12 : decode cX6_gift 12 = .ok (.ireturn, 1) := by decide +kernel
theorem dX6_weeks_0 : decode cX6_weeks 0 = .ok (.aload_n 0, 1) := by decide +kernel
theorem dX6_weeks_1 : decode cX6_weeks 1 = .ok (.aload_n 0, 1) := by decide +kernel
theorem dX6_weeks_2 : decode cX6_weeks 2 = .ok (.invokevirtual 74, 3) := by decide +kernel
theorem dX6_weeks_5 : decode cX6_weeks 5 = .ok (.iload_n 1, 1) := by decide +kernel
theorem dX6_weeks_6 : decode cX6_weeks 6 = .ok (.invokevirtual 111, 3) := by decide +kernel
theorem dX6_weeks_9 : decode cX6_weeks 9 = .ok (.invokevirtual 82, 3) := by decide +kernel
theorem dX6_weeks_12 : decode cX6_weeks 12 = .ok (.ireturn, 1) := by decide +kernel
theorem dX6_brotherOf_0 : decode cX6_brotherOf 0 = .ok (.aload_n 0, 1) := by decide +kernel
theorem dX6_brotherOf_1 : decode cX6_brotherOf 1 = .ok (.getfield 12, 3) := by decide +kernel
theorem dX6_brotherOf_4 : decode cX6_brotherOf 4 = .ok (.iload_n 1, 1) := by decide +kernel
theorem dX6_brotherOf_5 : decode cX6_brotherOf 5 = .ok (.invokevirtual 114, 3) := by decide +kernel
theorem dX6_brotherOf_8 : decode cX6_brotherOf 8 = .ok (.ifCond .ne 6, 3) := by decide +kernel
theorem dX6_brotherOf_11 : decode cX6_brotherOf 11 = .ok (.bipush (-11), 2) := by decide +kernel
theorem dX6_brotherOf_13 : decode cX6_brotherOf 13 = .ok (.ireturn, 1) := by decide +kernel
theorem dX6_brotherOf_14 : decode cX6_brotherOf 14 = .ok (.iload_n 2, 1) := by decide +kernel
theorem dX6_brotherOf_15 : decode cX6_brotherOf 15 = .ok (.tableswitch 164 0 9 #[53, 63, 73, 83, 93, 120, 130, 141, 147, 158], 53) := by decide +kernel
theorem dX6_brotherOf_68 : decode cX6_brotherOf 68 = .ok (.aload_n 0, 1) := by decide +kernel
theorem dX6_brotherOf_69 : decode cX6_brotherOf 69 = .ok (.getfield 12, 3) := by decide +kernel
theorem dX6_brotherOf_72 : decode cX6_brotherOf 72 = .ok (.iconst 0, 1) := by decide +kernel
theorem dX6_brotherOf_73 : decode cX6_brotherOf 73 = .ok (.iload_n 1, 1) := by decide +kernel
theorem dX6_brotherOf_74 : decode cX6_brotherOf 74 = .ok (.invokevirtual 118, 3) := by decide +kernel
theorem dX6_brotherOf_77 : decode cX6_brotherOf 77 = .ok (.ireturn, 1) := by decide +kernel
theorem dX6_brotherOf_78 : decode cX6_brotherOf 78 = .ok (.aload_n 0, 1) := by decide +kernel
theorem dX6_brotherOf_79 : decode cX6_brotherOf 79 = .ok (.getfield 12, 3) := by decide +kernel
theorem dX6_brotherOf_82 : decode cX6_brotherOf 82 = .ok (.iconst 1, 1) := by decide +kernel
theorem dX6_brotherOf_83 : decode cX6_brotherOf 83 = .ok (.iload_n 1, 1) := by decide +kernel
theorem dX6_brotherOf_84 : decode cX6_brotherOf 84 = .ok (.invokevirtual 118, 3) := by decide +kernel
theorem dX6_brotherOf_87 : decode cX6_brotherOf 87 = .ok (.ireturn, 1) := by decide +kernel
theorem dX6_brotherOf_88 : decode cX6_brotherOf 88 = .ok (.aload_n 0, 1) := by decide +kernel
theorem dX6_brotherOf_89 : decode cX6_brotherOf 89 = .ok (.getfield 12, 3) := by decide +kernel
theorem dX6_brotherOf_92 : decode cX6_brotherOf 92 = .ok (.iconst 2, 1) := by decide +kernel
theorem dX6_brotherOf_93 : decode cX6_brotherOf 93 = .ok (.iload_n 1, 1) := by decide +kernel
theorem dX6_brotherOf_94 : decode cX6_brotherOf 94 = .ok (.invokevirtual 118, 3) := by decide +kernel
theorem dX6_brotherOf_97 : decode cX6_brotherOf 97 = .ok (.ireturn, 1) := by decide +kernel
theorem dX6_brotherOf_98 : decode cX6_brotherOf 98 = .ok (.aload_n 0, 1) := by decide +kernel
theorem dX6_brotherOf_99 : decode cX6_brotherOf 99 = .ok (.getfield 12, 3) := by decide +kernel
theorem dX6_brotherOf_102 : decode cX6_brotherOf 102 = .ok (.iconst 3, 1) := by decide +kernel
theorem dX6_brotherOf_103 : decode cX6_brotherOf 103 = .ok (.iload_n 1, 1) := by decide +kernel
theorem dX6_brotherOf_104 : decode cX6_brotherOf 104 = .ok (.invokevirtual 118, 3) := by decide +kernel
theorem dX6_brotherOf_107 : decode cX6_brotherOf 107 = .ok (.ireturn, 1) := by decide +kernel
theorem dX6_brotherOf_108 : decode cX6_brotherOf 108 = .ok (.aload_n 0, 1) := by decide +kernel
theorem dX6_brotherOf_109 : decode cX6_brotherOf 109 = .ok (.getfield 12, 3) := by decide +kernel
theorem dX6_brotherOf_112 : decode cX6_brotherOf 112 = .ok (.iconst 1, 1) := by decide +kernel
theorem dX6_brotherOf_113 : decode cX6_brotherOf 113 = .ok (.iload_n 1, 1) := by decide +kernel
theorem dX6_brotherOf_114 : decode cX6_brotherOf 114 = .ok (.invokevirtual 121, 3) := by decide +kernel
theorem dX6_brotherOf_117 : decode cX6_brotherOf 117 = .ok (.ifCond .eq 15, 3) := by decide +kernel
theorem dX6_brotherOf_120 : decode cX6_brotherOf 120 = .ok (.aload_n 0, 1) := by decide +kernel
theorem dX6_brotherOf_121 : decode cX6_brotherOf 121 = .ok (.getfield 12, 3) := by decide +kernel
theorem dX6_brotherOf_124 : decode cX6_brotherOf 124 = .ok (.iconst 4, 1) := by decide +kernel
theorem dX6_brotherOf_125 : decode cX6_brotherOf 125 = .ok (.iload_n 1, 1) := by decide +kernel
theorem dX6_brotherOf_126 : decode cX6_brotherOf 126 = .ok (.invokevirtual 118, 3) := by decide +kernel
theorem dX6_brotherOf_129 : decode cX6_brotherOf 129 = .ok (.goto 5, 3) := by decide +kernel
theorem dX6_brotherOf_132 : decode cX6_brotherOf 132 = .ok (.bipush (-15), 2) := by decide +kernel
theorem dX6_brotherOf_134 : decode cX6_brotherOf 134 = .ok (.ireturn, 1) := by decide +kernel
theorem dX6_brotherOf_135 : decode cX6_brotherOf 135 = .ok (.aload_n 0, 1) := by decide +kernel
theorem dX6_brotherOf_136 : decode cX6_brotherOf 136 = .ok (.getfield 12, 3) := by decide +kernel
theorem dX6_brotherOf_139 : decode cX6_brotherOf 139 = .ok (.iconst 5, 1) := by decide +kernel
theorem dX6_brotherOf_140 : decode cX6_brotherOf 140 = .ok (.iload_n 1, 1) := by decide +kernel
theorem dX6_brotherOf_141 : decode cX6_brotherOf 141 = .ok (.invokevirtual 118, 3) := by decide +kernel
theorem dX6_brotherOf_144 : decode cX6_brotherOf 144 = .ok (.ireturn, 1) := by decide +kernel
theorem dX6_brotherOf_145 : decode cX6_brotherOf 145 = .ok (.aload_n 0, 1) := by decide +kernel
theorem dX6_brotherOf_146 : decode cX6_brotherOf 146 = .ok (.getfield 12, 3) := by decide +kernel
theorem dX6_brotherOf_149 : decode cX6_brotherOf 149 = .ok (.bipush 6, 2) := by decide +kernel
theorem dX6_brotherOf_151 : decode cX6_brotherOf 151 = .ok (.iload_n 1, 1) := by decide +kernel
theorem dX6_brotherOf_152 : decode cX6_brotherOf 152 = .ok (.invokevirtual 118, 3) := by decide +kernel
theorem dX6_brotherOf_155 : decode cX6_brotherOf 155 = .ok (.ireturn, 1) := by decide +kernel
theorem dX6_brotherOf_156 : decode cX6_brotherOf 156 = .ok (.aload_n 0, 1) := by decide +kernel
theorem dX6_brotherOf_157 : decode cX6_brotherOf 157 = .ok (.iload_n 1, 1) := by decide +kernel
theorem dX6_brotherOf_158 : decode cX6_brotherOf 158 = .ok (.invokevirtual 125, 3) := by decide +kernel
theorem dX6_brotherOf_161 : decode cX6_brotherOf 161 = .ok (.ireturn, 1) := by decide +kernel
theorem dX6_brotherOf_162 : decode cX6_brotherOf 162 = .ok (.aload_n 0, 1) := by decide +kernel
theorem dX6_brotherOf_163 : decode cX6_brotherOf 163 = .ok (.getfield 12, 3) := by decide +kernel
theorem dX6_brotherOf_166 : decode cX6_brotherOf 166 = .ok (.bipush 7, 2) := by decide +kernel
theorem dX6_brotherOf_168 : decode cX6_brotherOf 168 = .ok (.iload_n 1, 1) := by decide +kernel
theorem dX6_brotherOf_169 : decode cX6_brotherOf 169 = .ok (.invokevirtual 118, 3) := by decide +kernel
theorem dX6_brotherOf_172 : decode cX6_brotherOf 172 = .ok (.ireturn, 1) := by decide +kernel
theorem dX6_brotherOf_173 : decode cX6_brotherOf 173 = .ok (.aload_n 0, 1) := by decide +kernel
theorem dX6_brotherOf_174 : decode cX6_brotherOf 174 = .ok (.iload_n 1, 1) := by decide +kernel
theorem dX6_brotherOf_175 : decode cX6_brotherOf 175 = .ok (.invokevirtual 128, 3) := by decide +kernel
theorem dX6_brotherOf_178 : decode cX6_brotherOf 178 = .ok (.ireturn, 1) := by decide +kernel
theorem dX6_brotherOf_179 : decode cX6_brotherOf 179 = .ok (.bipush (-12), 2) := by decide +kernel
theorem dX6_brotherOf_181 : decode cX6_brotherOf 181 = .ok (.ireturn, 1) := by decide +kernel
theorem dX6_broke_0 : decode cX6_broke 0 = .ok (.aload_n 0, 1) := by decide +kernel
theorem dX6_broke_1 : decode cX6_broke 1 = .ok (.getfield 12, 3) := by decide +kernel
theorem dX6_broke_4 : decode cX6_broke 4 = .ok (.iload_n 1, 1) := by decide +kernel
theorem dX6_broke_5 : decode cX6_broke 5 = .ok (.invokevirtual 114, 3) := by decide +kernel
theorem dX6_broke_8 : decode cX6_broke 8 = .ok (.ifCond .eq 25, 3) := by decide +kernel
theorem dX6_broke_11 : decode cX6_broke 11 = .ok (.iload_n 2, 1) := by decide +kernel
theorem dX6_broke_12 : decode cX6_broke 12 = .ok (.invokestatic 131, 3) := by decide +kernel
theorem dX6_broke_15 : decode cX6_broke 15 = .ok (.ifCond .eq 18, 3) := by decide +kernel
theorem dX6_broke_18 : decode cX6_broke 18 = .ok (.aload_n 0, 1) := by decide +kernel
theorem dX6_broke_19 : decode cX6_broke 19 = .ok (.getfield 12, 3) := by decide +kernel
theorem dX6_broke_22 : decode cX6_broke 22 = .ok (.bipush 9, 2) := by decide +kernel
theorem dX6_broke_24 : decode cX6_broke 24 = .ok (.iload_n 2, 1) := by decide +kernel
theorem dX6_broke_25 : decode cX6_broke 25 = .ok (.iadd, 1) := by decide +kernel
theorem dX6_broke_26 : decode cX6_broke 26 = .ok (.iload_n 1, 1) := by decide +kernel
theorem dX6_broke_27 : decode cX6_broke 27 = .ok (.invokevirtual 118, 3) := by decide +kernel
theorem dX6_broke_30 : decode cX6_broke 30 = .ok (.goto 5, 3) := by decide +kernel
theorem dX6_broke_33 : decode cX6_broke 33 = .ok (.bipush (-11), 2) := by decide +kernel
theorem dX6_broke_35 : decode cX6_broke 35 = .ok (.ireturn, 1) := by decide +kernel
theorem dX6_inCell_0 : decode cX6_inCell 0 = .ok (.iload_n 1, 1) := by decide +kernel
theorem dX6_inCell_1 : decode cX6_inCell 1 = .ok (.invokestatic 134, 3) := by decide +kernel
theorem dX6_inCell_4 : decode cX6_inCell 4 = .ok (.ifCond .eq 18, 3) := by decide +kernel
theorem dX6_inCell_7 : decode cX6_inCell 7 = .ok (.aload_n 0, 1) := by decide +kernel
theorem dX6_inCell_8 : decode cX6_inCell 8 = .ok (.getfield 12, 3) := by decide +kernel
theorem dX6_inCell_11 : decode cX6_inCell 11 = .ok (.sipush 224, 3) := by decide +kernel
theorem dX6_inCell_14 : decode cX6_inCell 14 = .ok (.iload_n 1, 1) := by decide +kernel
theorem dX6_inCell_15 : decode cX6_inCell 15 = .ok (.iadd, 1) := by decide +kernel
theorem dX6_inCell_16 : decode cX6_inCell 16 = .ok (.invokevirtual 137, 3) := by decide +kernel
theorem dX6_inCell_19 : decode cX6_inCell 19 = .ok (.goto 5, 3) := by decide +kernel
theorem dX6_inCell_22 : decode cX6_inCell 22 = .ok (.bipush (-11), 2) := by decide +kernel
theorem dX6_inCell_24 : decode cX6_inCell 24 = .ok (.ireturn, 1) := by decide +kernel
theorem dX6_entitled_0 : decode cX6_entitled 0 = .ok (.iconst 0, 1) := by decide +kernel
theorem dX6_entitled_1 : decode cX6_entitled 1 = .ok (.istore_n 1, 1) := by decide +kernel
theorem dX6_entitled_2 : decode cX6_entitled 2 = .ok (.iconst 0, 1) := by decide +kernel
theorem dX6_entitled_3 : decode cX6_entitled 3 = .ok (.istore_n 2, 1) := by decide +kernel
theorem dX6_entitled_4 : decode cX6_entitled 4 = .ok (.iload_n 2, 1) := by decide +kernel
theorem dX6_entitled_5 : decode cX6_entitled 5 = .ok (.bipush 16, 2) := by decide +kernel
theorem dX6_entitled_7 : decode cX6_entitled 7 = .ok (.if_icmp .ge 26, 3) := by decide +kernel
theorem dX6_entitled_10 : decode cX6_entitled 10 = .ok (.aload_n 0, 1) := by decide +kernel
theorem dX6_entitled_11 : decode cX6_entitled 11 = .ok (.getfield 12, 3) := by decide +kernel
theorem dX6_entitled_14 : decode cX6_entitled 14 = .ok (.iload_n 2, 1) := by decide +kernel
theorem dX6_entitled_15 : decode cX6_entitled 15 = .ok (.invokevirtual 140, 3) := by decide +kernel
theorem dX6_entitled_18 : decode cX6_entitled 18 = .ok (.ifCond .eq 9, 3) := by decide +kernel
theorem dX6_entitled_21 : decode cX6_entitled 21 = .ok (.iload_n 1, 1) := by decide +kernel
theorem dX6_entitled_22 : decode cX6_entitled 22 = .ok (.iconst 1, 1) := by decide +kernel
theorem dX6_entitled_23 : decode cX6_entitled 23 = .ok (.iload_n 2, 1) := by decide +kernel
theorem dX6_entitled_24 : decode cX6_entitled 24 = .ok (.ishl, 1) := by decide +kernel
theorem dX6_entitled_25 : decode cX6_entitled 25 = .ok (.ior, 1) := by decide +kernel
theorem dX6_entitled_26 : decode cX6_entitled 26 = .ok (.istore_n 1, 1) := by decide +kernel
theorem dX6_entitled_27 : decode cX6_entitled 27 = .ok (.iinc 2 1, 3) := by decide +kernel
theorem dX6_entitled_30 : decode cX6_entitled 30 = .ok (.goto (-26), 3) := by decide +kernel
theorem dX6_entitled_33 : decode cX6_entitled 33 = .ok (.iload_n 1, 1) := by decide +kernel
theorem dX6_entitled_34 : decode cX6_entitled 34 = .ok (.ireturn, 1) := by decide +kernel
theorem dX6_entitledAgain_0 : decode cX6_entitledAgain 0 = .ok (.iconst 0, 1) := by decide +kernel
theorem dX6_entitledAgain_1 : decode cX6_entitledAgain 1 = .ok (.istore_n 1, 1) := by decide +kernel
theorem dX6_entitledAgain_2 : decode cX6_entitledAgain 2 = .ok (.iconst 0, 1) := by decide +kernel
theorem dX6_entitledAgain_3 : decode cX6_entitledAgain 3 = .ok (.istore_n 2, 1) := by decide +kernel
theorem dX6_entitledAgain_4 : decode cX6_entitledAgain 4 = .ok (.iload_n 2, 1) := by decide +kernel
theorem dX6_entitledAgain_5 : decode cX6_entitledAgain 5 = .ok (.bipush 8, 2) := by decide +kernel
theorem dX6_entitledAgain_7 : decode cX6_entitledAgain 7 = .ok (.if_icmp .ge 51, 3) := by decide +kernel
theorem dX6_entitledAgain_10 : decode cX6_entitledAgain 10 = .ok (.aload_n 0, 1) := by decide +kernel
theorem dX6_entitledAgain_11 : decode cX6_entitledAgain 11 = .ok (.getfield 12, 3) := by decide +kernel
theorem dX6_entitledAgain_14 : decode cX6_entitledAgain 14 = .ok (.sipush 224, 3) := by decide +kernel
theorem dX6_entitledAgain_17 : decode cX6_entitledAgain 17 = .ok (.iload_n 2, 1) := by decide +kernel
theorem dX6_entitledAgain_18 : decode cX6_entitledAgain 18 = .ok (.iadd, 1) := by decide +kernel
theorem dX6_entitledAgain_19 : decode cX6_entitledAgain 19 = .ok (.invokevirtual 137, 3) := by decide +kernel
theorem dX6_entitledAgain_22 : decode cX6_entitledAgain 22 = .ok (.istore_n 3, 1) := by decide +kernel
theorem dX6_entitledAgain_23 : decode cX6_entitledAgain 23 = .ok (.aload_n 0, 1) := by decide +kernel
theorem dX6_entitledAgain_24 : decode cX6_entitledAgain 24 = .ok (.getfield 12, 3) := by decide +kernel
theorem dX6_entitledAgain_27 : decode cX6_entitledAgain 27 = .ok (.iload_n 3, 1) := by decide +kernel
theorem dX6_entitledAgain_28 : decode cX6_entitledAgain 28 = .ok (.invokevirtual 114, 3) := by decide +kernel
theorem dX6_entitledAgain_31 : decode cX6_entitledAgain 31 = .ok (.ifCond .eq 21, 3) := by decide +kernel
theorem dX6_entitledAgain_34 : decode cX6_entitledAgain 34 = .ok (.aload_n 0, 1) := by decide +kernel
theorem dX6_entitledAgain_35 : decode cX6_entitledAgain 35 = .ok (.getfield 12, 3) := by decide +kernel
theorem dX6_entitledAgain_38 : decode cX6_entitledAgain 38 = .ok (.iconst 5, 1) := by decide +kernel
theorem dX6_entitledAgain_39 : decode cX6_entitledAgain 39 = .ok (.iload_n 3, 1) := by decide +kernel
theorem dX6_entitledAgain_40 : decode cX6_entitledAgain 40 = .ok (.invokevirtual 118, 3) := by decide +kernel
theorem dX6_entitledAgain_43 : decode cX6_entitledAgain 43 = .ok (.ifCond .ne 9, 3) := by decide +kernel
theorem dX6_entitledAgain_46 : decode cX6_entitledAgain 46 = .ok (.iload_n 1, 1) := by decide +kernel
theorem dX6_entitledAgain_47 : decode cX6_entitledAgain 47 = .ok (.iconst 1, 1) := by decide +kernel
theorem dX6_entitledAgain_48 : decode cX6_entitledAgain 48 = .ok (.iload_n 3, 1) := by decide +kernel
theorem dX6_entitledAgain_49 : decode cX6_entitledAgain 49 = .ok (.ishl, 1) := by decide +kernel
theorem dX6_entitledAgain_50 : decode cX6_entitledAgain 50 = .ok (.ior, 1) := by decide +kernel
theorem dX6_entitledAgain_51 : decode cX6_entitledAgain 51 = .ok (.istore_n 1, 1) := by decide +kernel
theorem dX6_entitledAgain_52 : decode cX6_entitledAgain 52 = .ok (.iinc 2 1, 3) := by decide +kernel
theorem dX6_entitledAgain_55 : decode cX6_entitledAgain 55 = .ok (.goto (-51), 3) := by decide +kernel
theorem dX6_entitledAgain_58 : decode cX6_entitledAgain 58 = .ok (.iload_n 1, 1) := by decide +kernel
theorem dX6_entitledAgain_59 : decode cX6_entitledAgain 59 = .ok (.ireturn, 1) := by decide +kernel
theorem dX6_voices_0 : decode cX6_voices 0 = .ok (.aload_n 0, 1) := by decide +kernel
theorem dX6_voices_1 : decode cX6_voices 1 = .ok (.getfield 12, 3) := by decide +kernel
theorem dX6_voices_4 : decode cX6_voices 4 = .ok (.iload_n 1, 1) := by decide +kernel
theorem dX6_voices_5 : decode cX6_voices 5 = .ok (.invokevirtual 114, 3) := by decide +kernel
theorem dX6_voices_8 : decode cX6_voices 8 = .ok (.ifCond .eq 14, 3) := by decide +kernel
theorem dX6_voices_11 : decode cX6_voices 11 = .ok (.aload_n 0, 1) := by decide +kernel
theorem dX6_voices_12 : decode cX6_voices 12 = .ok (.getfield 12, 3) := by decide +kernel
theorem dX6_voices_15 : decode cX6_voices 15 = .ok (.iload_n 1, 1) := by decide +kernel
theorem dX6_voices_16 : decode cX6_voices 16 = .ok (.invokevirtual 143, 3) := by decide +kernel
theorem dX6_voices_19 : decode cX6_voices 19 = .ok (.goto 5, 3) := by decide +kernel
theorem dX6_voices_22 : decode cX6_voices 22 = .ok (.bipush (-11), 2) := by decide +kernel
theorem dX6_voices_24 : decode cX6_voices 24 = .ok (.ireturn, 1) := by decide +kernel
theorem dX6_voicesAgain_0 : decode cX6_voicesAgain 0 = .ok (.aload_n 0, 1) := by decide +kernel
theorem dX6_voicesAgain_1 : decode cX6_voicesAgain 1 = .ok (.getfield 12, 3) := by decide +kernel
theorem dX6_voicesAgain_4 : decode cX6_voicesAgain 4 = .ok (.iload_n 1, 1) := by decide +kernel
theorem dX6_voicesAgain_5 : decode cX6_voicesAgain 5 = .ok (.invokevirtual 114, 3) := by decide +kernel
theorem dX6_voicesAgain_8 : decode cX6_voicesAgain 8 = .ok (.ifCond .ne 6, 3) := by decide +kernel
theorem dX6_voicesAgain_11 : decode cX6_voicesAgain 11 = .ok (.bipush (-11), 2) := by decide +kernel
theorem dX6_voicesAgain_13 : decode cX6_voicesAgain 13 = .ok (.ireturn, 1) := by decide +kernel
theorem dX6_voicesAgain_14 : decode cX6_voicesAgain 14 = .ok (.aload_n 0, 1) := by decide +kernel
theorem dX6_voicesAgain_15 : decode cX6_voicesAgain 15 = .ok (.invokevirtual 146, 3) := by decide +kernel
theorem dX6_voicesAgain_18 : decode cX6_voicesAgain 18 = .ok (.iload_n 1, 1) := by decide +kernel
theorem dX6_voicesAgain_19 : decode cX6_voicesAgain 19 = .ok (.ifCond .lt 21, 3) := by decide +kernel
theorem dX6_voicesAgain_22 : decode cX6_voicesAgain 22 = .ok (.iload_n 1, 1) := by decide +kernel
theorem dX6_voicesAgain_23 : decode cX6_voicesAgain 23 = .ok (.aload_n 0, 1) := by decide +kernel
theorem dX6_voicesAgain_24 : decode cX6_voicesAgain 24 = .ok (.getfield 59, 3) := by decide +kernel
theorem dX6_voicesAgain_27 : decode cX6_voicesAgain 27 = .ok (.arraylength, 1) := by decide +kernel
theorem dX6_voicesAgain_28 : decode cX6_voicesAgain 28 = .ok (.if_icmp .ge 12, 3) := by decide +kernel
theorem dX6_voicesAgain_31 : decode cX6_voicesAgain 31 = .ok (.aload_n 0, 1) := by decide +kernel
theorem dX6_voicesAgain_32 : decode cX6_voicesAgain 32 = .ok (.getfield 59, 3) := by decide +kernel
theorem dX6_voicesAgain_35 : decode cX6_voicesAgain 35 = .ok (.iload_n 1, 1) := by decide +kernel
theorem dX6_voicesAgain_36 : decode cX6_voicesAgain 36 = .ok (.iaload, 1) := by decide +kernel
theorem dX6_voicesAgain_37 : decode cX6_voicesAgain 37 = .ok (.goto 4, 3) := by decide +kernel
theorem dX6_voicesAgain_40 : decode cX6_voicesAgain 40 = .ok (.iconst 0, 1) := by decide +kernel
theorem dX6_voicesAgain_41 : decode cX6_voicesAgain 41 = .ok (.ireturn, 1) := by decide +kernel
theorem dX6_ranked_0 : decode cX6_ranked 0 = .ok (.aload_n 0, 1) := by decide +kernel
theorem dX6_ranked_1 : decode cX6_ranked 1 = .ok (.getfield 29, 3) := by decide +kernel
theorem dX6_ranked_4 : decode cX6_ranked 4 = .ok (.aload_n 0, 1) := by decide +kernel
theorem dX6_ranked_5 : decode cX6_ranked 5 = .ok (.getfield 12, 3) := by decide +kernel
theorem dX6_ranked_8 : decode cX6_ranked 8 = .ok (.iload_n 1, 1) := by decide +kernel
theorem dX6_ranked_9 : decode cX6_ranked 9 = .ok (.invokevirtual 149, 3) := by decide +kernel
theorem dX6_ranked_12 : decode cX6_ranked 12 = .ok (.ireturn, 1) := by decide +kernel
theorem dX6_senior_0 : decode cX6_senior 0 = .ok (.aload_n 0, 1) := by decide +kernel
theorem dX6_senior_1 : decode cX6_senior 1 = .ok (.getfield 29, 3) := by decide +kernel
theorem dX6_senior_4 : decode cX6_senior 4 = .ok (.aload_n 0, 1) := by decide +kernel
theorem dX6_senior_5 : decode cX6_senior 5 = .ok (.getfield 12, 3) := by decide +kernel
theorem dX6_senior_8 : decode cX6_senior 8 = .ok (.iload_n 1, 1) := by decide +kernel
theorem dX6_senior_9 : decode cX6_senior 9 = .ok (.invokevirtual 153, 3) := by decide +kernel
theorem dX6_senior_12 : decode cX6_senior 12 = .ok (.ireturn, 1) := by decide +kernel
theorem dX6_shabby_0 : decode cX6_shabby 0 = .ok (.aload_n 0, 1) := by decide +kernel
theorem dX6_shabby_1 : decode cX6_shabby 1 = .ok (.getfield 29, 3) := by decide +kernel
theorem dX6_shabby_4 : decode cX6_shabby 4 = .ok (.aload_n 0, 1) := by decide +kernel
theorem dX6_shabby_5 : decode cX6_shabby 5 = .ok (.getfield 12, 3) := by decide +kernel
theorem dX6_shabby_8 : decode cX6_shabby 8 = .ok (.iload_n 1, 1) := by decide +kernel
theorem dX6_shabby_9 : decode cX6_shabby 9 = .ok (.invokevirtual 156, 3) := by decide +kernel
theorem dX6_shabby_12 : decode cX6_shabby 12 = .ok (.ireturn, 1) := by decide +kernel
theorem dX6_nextFeast_0 : decode cX6_nextFeast 0 = .ok (.iconst 0, 1) := by decide +kernel
theorem dX6_nextFeast_1 : decode cX6_nextFeast 1 = .ok (.istore_n 1, 1) := by decide +kernel
theorem dX6_nextFeast_2 : decode cX6_nextFeast 2 = .ok (.iload_n 1, 1) := by decide +kernel
theorem dX6_nextFeast_3 : decode cX6_nextFeast 3 = .ok (.bipush 52, 2) := by decide +kernel
theorem dX6_nextFeast_5 : decode cX6_nextFeast 5 = .ok (.if_icmp .ge 36, 3) := by decide +kernel
theorem dX6_nextFeast_8 : decode cX6_nextFeast 8 = .ok (.aload_n 0, 1) := by decide +kernel
theorem dX6_nextFeast_9 : decode cX6_nextFeast 9 = .ok (.getfield 12, 3) := by decide +kernel
theorem dX6_nextFeast_12 : decode cX6_nextFeast 12 = .ok (.aload_n 0, 1) := by decide +kernel
theorem dX6_nextFeast_13 : decode cX6_nextFeast 13 = .ok (.getfield 12, 3) := by decide +kernel
theorem dX6_nextFeast_16 : decode cX6_nextFeast 16 = .ok (.sipush 287, 3) := by decide +kernel
theorem dX6_nextFeast_19 : decode cX6_nextFeast 19 = .ok (.invokevirtual 137, 3) := by decide +kernel
theorem dX6_nextFeast_22 : decode cX6_nextFeast 22 = .ok (.iload_n 1, 1) := by decide +kernel
theorem dX6_nextFeast_23 : decode cX6_nextFeast 23 = .ok (.iadd, 1) := by decide +kernel
theorem dX6_nextFeast_24 : decode cX6_nextFeast 24 = .ok (.bipush 52, 2) := by decide +kernel
theorem dX6_nextFeast_26 : decode cX6_nextFeast 26 = .ok (.irem, 1) := by decide +kernel
theorem dX6_nextFeast_27 : decode cX6_nextFeast 27 = .ok (.invokevirtual 159, 3) := by decide +kernel
theorem dX6_nextFeast_30 : decode cX6_nextFeast 30 = .ok (.ifCond .le 5, 3) := by decide +kernel
theorem dX6_nextFeast_33 : decode cX6_nextFeast 33 = .ok (.iload_n 1, 1) := by decide +kernel
theorem dX6_nextFeast_34 : decode cX6_nextFeast 34 = .ok (.ireturn, 1) := by decide +kernel
theorem dX6_nextFeast_35 : decode cX6_nextFeast 35 = .ok (.iinc 1 1, 3) := by decide +kernel
theorem dX6_nextFeast_38 : decode cX6_nextFeast 38 = .ok (.goto (-36), 3) := by decide +kernel
theorem dX6_nextFeast_41 : decode cX6_nextFeast 41 = .ok (.bipush (-15), 2) := by decide +kernel
theorem dX6_nextFeast_43 : decode cX6_nextFeast 43 = .ok (.ireturn, 1) := by decide +kernel
theorem dX6_wouldGet_0 : decode cX6_wouldGet 0 = .ok (.aload_n 0, 1) := by decide +kernel
theorem dX6_wouldGet_1 : decode cX6_wouldGet 1 = .ok (.getfield 12, 3) := by decide +kernel
theorem dX6_wouldGet_4 : decode cX6_wouldGet 4 = .ok (.iload_n 1, 1) := by decide +kernel
theorem dX6_wouldGet_5 : decode cX6_wouldGet 5 = .ok (.invokevirtual 114, 3) := by decide +kernel
theorem dX6_wouldGet_8 : decode cX6_wouldGet 8 = .ok (.ifCond .ne 6, 3) := by decide +kernel
theorem dX6_wouldGet_11 : decode cX6_wouldGet 11 = .ok (.bipush (-11), 2) := by decide +kernel
theorem dX6_wouldGet_13 : decode cX6_wouldGet 13 = .ok (.ireturn, 1) := by decide +kernel
theorem dX6_wouldGet_14 : decode cX6_wouldGet 14 = .ok (.iload_n 2, 1) := by decide +kernel
theorem dX6_wouldGet_15 : decode cX6_wouldGet 15 = .ok (.ifCond .lt 9, 3) := by decide +kernel
theorem dX6_wouldGet_18 : decode cX6_wouldGet 18 = .ok (.iload_n 2, 1) := by decide +kernel
theorem dX6_wouldGet_19 : decode cX6_wouldGet 19 = .ok (.bipush 60, 2) := by decide +kernel
theorem dX6_wouldGet_21 : decode cX6_wouldGet 21 = .ok (.if_icmp .le 6, 3) := by decide +kernel
theorem dX6_wouldGet_24 : decode cX6_wouldGet 24 = .ok (.bipush (-12), 2) := by decide +kernel
theorem dX6_wouldGet_26 : decode cX6_wouldGet 26 = .ok (.ireturn, 1) := by decide +kernel
theorem dX6_wouldGet_27 : decode cX6_wouldGet 27 = .ok (.aload_n 0, 1) := by decide +kernel
theorem dX6_wouldGet_28 : decode cX6_wouldGet 28 = .ok (.invokevirtual 74, 3) := by decide +kernel
theorem dX6_wouldGet_31 : decode cX6_wouldGet 31 = .ok (.iload_n 2, 1) := by decide +kernel
theorem dX6_wouldGet_32 : decode cX6_wouldGet 32 = .ok (.invokevirtual 162, 3) := by decide +kernel
theorem dX6_wouldGet_35 : decode cX6_wouldGet 35 = .ok (.bipush 6, 2) := by decide +kernel
theorem dX6_wouldGet_37 : decode cX6_wouldGet 37 = .ok (.iload_n 1, 1) := by decide +kernel
theorem dX6_wouldGet_38 : decode cX6_wouldGet 38 = .ok (.invokevirtual 118, 3) := by decide +kernel
theorem dX6_wouldGet_41 : decode cX6_wouldGet 41 = .ok (.aload_n 0, 1) := by decide +kernel
theorem dX6_wouldGet_42 : decode cX6_wouldGet 42 = .ok (.getfield 12, 3) := by decide +kernel
theorem dX6_wouldGet_45 : decode cX6_wouldGet 45 = .ok (.bipush 6, 2) := by decide +kernel
theorem dX6_wouldGet_47 : decode cX6_wouldGet 47 = .ok (.iload_n 1, 1) := by decide +kernel
theorem dX6_wouldGet_48 : decode cX6_wouldGet 48 = .ok (.invokevirtual 118, 3) := by decide +kernel
theorem dX6_wouldGet_51 : decode cX6_wouldGet 51 = .ok (.isub, 1) := by decide +kernel
theorem dX6_wouldGet_52 : decode cX6_wouldGet 52 = .ok (.ireturn, 1) := by decide +kernel
theorem dX6_chestIn_0 : decode cX6_chestIn 0 = .ok (.iload_n 1, 1) := by decide +kernel
theorem dX6_chestIn_1 : decode cX6_chestIn 1 = .ok (.ifCond .lt 9, 3) := by decide +kernel
theorem dX6_chestIn_4 : decode cX6_chestIn 4 = .ok (.iload_n 1, 1) := by decide +kernel
theorem dX6_chestIn_5 : decode cX6_chestIn 5 = .ok (.bipush 60, 2) := by decide +kernel
theorem dX6_chestIn_7 : decode cX6_chestIn 7 = .ok (.if_icmp .le 8, 3) := by decide +kernel
theorem dX6_chestIn_10 : decode cX6_chestIn 10 = .ok (.bipush (-12), 2) := by decide +kernel
theorem dX6_chestIn_12 : decode cX6_chestIn 12 = .ok (.goto 17, 3) := by decide +kernel
theorem dX6_chestIn_15 : decode cX6_chestIn 15 = .ok (.aload_n 0, 1) := by decide +kernel
theorem dX6_chestIn_16 : decode cX6_chestIn 16 = .ok (.invokevirtual 74, 3) := by decide +kernel
theorem dX6_chestIn_19 : decode cX6_chestIn 19 = .ok (.iload_n 1, 1) := by decide +kernel
theorem dX6_chestIn_20 : decode cX6_chestIn 20 = .ok (.invokevirtual 162, 3) := by decide +kernel
theorem dX6_chestIn_23 : decode cX6_chestIn 23 = .ok (.sipush 288, 3) := by decide +kernel
theorem dX6_chestIn_26 : decode cX6_chestIn 26 = .ok (.invokevirtual 137, 3) := by decide +kernel
theorem dX6_chestIn_29 : decode cX6_chestIn 29 = .ok (.ireturn, 1) := by decide +kernel
theorem dX6_append_0 : decode cX6_append 0 = .ok (.iload_n 1, 1) := by decide +kernel
theorem dX6_append_1 : decode cX6_append 1 = .ok (.bipush 32, 2) := by decide +kernel
theorem dX6_append_3 : decode cX6_append 3 = .ok (.if_icmp .lt 9, 3) := by decide +kernel
theorem dX6_append_6 : decode cX6_append 6 = .ok (.iload_n 1, 1) := by decide +kernel
theorem dX6_append_7 : decode cX6_append 7 = .ok (.bipush 126, 2) := by decide +kernel
theorem dX6_append_9 : decode cX6_append 9 = .ok (.if_icmp .le 6, 3) := by decide +kernel
theorem dX6_append_12 : decode cX6_append 12 = .ok (.bipush (-12), 2) := by decide +kernel
theorem dX6_append_14 : decode cX6_append 14 = .ok (.ireturn, 1) := by decide +kernel
theorem dX6_append_15 : decode cX6_append 15 = .ok (.aload_n 0, 1) := by decide +kernel
theorem dX6_append_16 : decode cX6_append 16 = .ok (.getfield 52, 3) := by decide +kernel
theorem dX6_append_19 : decode cX6_append 19 = .ok (.invokevirtual 166, 3) := by decide +kernel
theorem dX6_append_22 : decode cX6_append 22 = .ok (.bipush 60, 2) := by decide +kernel
theorem dX6_append_24 : decode cX6_append 24 = .ok (.if_icmp .lt 6, 3) := by decide +kernel
theorem dX6_append_27 : decode cX6_append 27 = .ok (.bipush (-13), 2) := by decide +kernel
theorem dX6_append_29 : decode cX6_append 29 = .ok (.ireturn, 1) := by decide +kernel
theorem dX6_append_30 : decode cX6_append 30 = .ok (.aload_n 0, 1) := by decide +kernel
theorem dX6_append_31 : decode cX6_append 31 = .ok (.getfield 52, 3) := by decide +kernel
theorem dX6_append_34 : decode cX6_append 34 = .ok (.iload_n 1, 1) := by decide +kernel
theorem dX6_append_35 : decode cX6_append 35 = .ok (.invokevirtual 170, 3) := by decide +kernel
theorem dX6_append_38 : decode cX6_append 38 = .ok (.aload_n 0, 1) := by decide +kernel
theorem dX6_append_39 : decode cX6_append 39 = .ok (.getfield 52, 3) := by decide +kernel
theorem dX6_append_42 : decode cX6_append 42 = .ok (.invokevirtual 166, 3) := by decide +kernel
theorem dX6_append_45 : decode cX6_append 45 = .ok (.ireturn, 1) := by decide +kernel
theorem dX6_run_0 : decode cX6_run 0 = .ok (.aload_n 0, 1) := by decide +kernel
theorem dX6_run_1 : decode cX6_run 1 = .ok (.getfield 43, 3) := by decide +kernel
theorem dX6_run_4 : decode cX6_run 4 = .ok (.aload_n 0, 1) := by decide +kernel
theorem dX6_run_5 : decode cX6_run 5 = .ok (.getfield 52, 3) := by decide +kernel
theorem dX6_run_8 : decode cX6_run 8 = .ok (.invokevirtual 173, 3) := by decide +kernel
theorem dX6_run_11 : decode cX6_run 11 = .ok (.istore_n 1, 1) := by decide +kernel
theorem dX6_run_12 : decode cX6_run 12 = .ok (.aload_n 0, 1) := by decide +kernel
theorem dX6_run_13 : decode cX6_run 13 = .ok (.getfield 52, 3) := by decide +kernel
theorem dX6_run_16 : decode cX6_run 16 = .ok (.invokevirtual 177, 3) := by decide +kernel
theorem dX6_run_19 : decode cX6_run 19 = .ok (.iload_n 1, 1) := by decide +kernel
theorem dX6_run_20 : decode cX6_run 20 = .ok (.ifCond .lt 9, 3) := by decide +kernel
theorem dX6_run_23 : decode cX6_run 23 = .ok (.sipush (-1000), 3) := by decide +kernel
theorem dX6_run_26 : decode cX6_run 26 = .ok (.iload_n 1, 1) := by decide +kernel
theorem dX6_run_27 : decode cX6_run 27 = .ok (.isub, 1) := by decide +kernel
theorem dX6_run_28 : decode cX6_run 28 = .ok (.ireturn, 1) := by decide +kernel
theorem dX6_run_29 : decode cX6_run 29 = .ok (.aload_n 0, 1) := by decide +kernel
theorem dX6_run_30 : decode cX6_run 30 = .ok (.invokevirtual 74, 3) := by decide +kernel
theorem dX6_run_33 : decode cX6_run 33 = .ok (.astore_n 2, 1) := by decide +kernel
theorem dX6_run_34 : decode cX6_run 34 = .ok (.iconst 0, 1) := by decide +kernel
theorem dX6_run_35 : decode cX6_run 35 = .ok (.istore_n 3, 1) := by decide +kernel
theorem dX6_run_36 : decode cX6_run 36 = .ok (.iload_n 3, 1) := by decide +kernel
theorem dX6_run_37 : decode cX6_run 37 = .ok (.aload_n 0, 1) := by decide +kernel
theorem dX6_run_38 : decode cX6_run 38 = .ok (.getfield 43, 3) := by decide +kernel
theorem dX6_run_41 : decode cX6_run 41 = .ok (.invokevirtual 180, 3) := by decide +kernel
theorem dX6_run_44 : decode cX6_run 44 = .ok (.if_icmp .ge 52, 3) := by decide +kernel
theorem dX6_run_47 : decode cX6_run 47 = .ok (.aload_n 2, 1) := by decide +kernel
theorem dX6_run_48 : decode cX6_run 48 = .ok (.aload_n 0, 1) := by decide +kernel
theorem dX6_run_49 : decode cX6_run 49 = .ok (.getfield 43, 3) := by decide +kernel
theorem dX6_run_52 : decode cX6_run 52 = .ok (.iload_n 3, 1) := by decide +kernel
theorem dX6_run_53 : decode cX6_run 53 = .ok (.invokevirtual 181, 3) := by decide +kernel
theorem dX6_run_56 : decode cX6_run 56 = .ok (.aload_n 0, 1) := by decide +kernel
theorem dX6_run_57 : decode cX6_run 57 = .ok (.getfield 43, 3) := by decide +kernel
theorem dX6_run_60 : decode cX6_run 60 = .ok (.iload_n 3, 1) := by decide +kernel
theorem dX6_run_61 : decode cX6_run 61 = .ok (.invokevirtual 184, 3) := by decide +kernel
theorem dX6_run_64 : decode cX6_run 64 = .ok (.aload_n 0, 1) := by decide +kernel
theorem dX6_run_65 : decode cX6_run 65 = .ok (.getfield 43, 3) := by decide +kernel
theorem dX6_run_68 : decode cX6_run 68 = .ok (.iload_n 3, 1) := by decide +kernel
theorem dX6_run_69 : decode cX6_run 69 = .ok (.invokevirtual 187, 3) := by decide +kernel
theorem dX6_run_72 : decode cX6_run 72 = .ok (.invokevirtual 190, 3) := by decide +kernel
theorem dX6_run_75 : decode cX6_run 75 = .ok (.ifCond .ge 15, 3) := by decide +kernel
theorem dX6_run_78 : decode cX6_run 78 = .ok (.aload_n 0, 1) := by decide +kernel
theorem dX6_run_79 : decode cX6_run 79 = .ok (.aload_n 2, 1) := by decide +kernel
theorem dX6_run_80 : decode cX6_run 80 = .ok (.bipush 11, 2) := by decide +kernel
theorem dX6_run_82 : decode cX6_run 82 = .ok (.iload_n 3, 1) := by decide +kernel
theorem dX6_run_83 : decode cX6_run 83 = .ok (.invokevirtual 194, 3) := by decide +kernel
theorem dX6_run_86 : decode cX6_run 86 = .ok (.invokevirtual 82, 3) := by decide +kernel
theorem dX6_run_89 : decode cX6_run 89 = .ok (.ireturn, 1) := by decide +kernel
theorem dX6_run_90 : decode cX6_run 90 = .ok (.iinc 3 1, 3) := by decide +kernel
theorem dX6_run_93 : decode cX6_run 93 = .ok (.goto (-57), 3) := by decide +kernel
theorem dX6_run_96 : decode cX6_run 96 = .ok (.aload_n 0, 1) := by decide +kernel
theorem dX6_run_97 : decode cX6_run 97 = .ok (.aload_n 0, 1) := by decide +kernel
theorem dX6_run_98 : decode cX6_run 98 = .ok (.getfield 43, 3) := by decide +kernel
theorem dX6_run_101 : decode cX6_run 101 = .ok (.invokevirtual 180, 3) := by decide +kernel
theorem dX6_run_104 : decode cX6_run 104 = .ok (.invokevirtual 82, 3) := by decide +kernel
theorem dX6_run_107 : decode cX6_run 107 = .ok (.ireturn, 1) := by decide +kernel
theorem dX6_tell_0 : decode cX6_tell 0 = .ok (.aload_n 0, 1) := by decide +kernel
theorem dX6_tell_1 : decode cX6_tell 1 = .ok (.getfield 56, 3) := by decide +kernel
theorem dX6_tell_4 : decode cX6_tell 4 = .ok (.invokevirtual 177, 3) := by decide +kernel
theorem dX6_tell_7 : decode cX6_tell 7 = .ok (.iconst 0, 1) := by decide +kernel
theorem dX6_tell_8 : decode cX6_tell 8 = .ok (.istore_n 1, 1) := by decide +kernel
theorem dX6_tell_9 : decode cX6_tell 9 = .ok (.iload_n 1, 1) := by decide +kernel
theorem dX6_tell_10 : decode cX6_tell 10 = .ok (.bipush 8, 2) := by decide +kernel
theorem dX6_tell_12 : decode cX6_tell 12 = .ok (.if_icmp .ge 38, 3) := by decide +kernel
theorem dX6_tell_15 : decode cX6_tell 15 = .ok (.iload_n 1, 1) := by decide +kernel
theorem dX6_tell_16 : decode cX6_tell 16 = .ok (.ifCond .le 12, 3) := by decide +kernel
theorem dX6_tell_19 : decode cX6_tell 19 = .ok (.aload_n 0, 1) := by decide +kernel
theorem dX6_tell_20 : decode cX6_tell 20 = .ok (.getfield 56, 3) := by decide +kernel
theorem dX6_tell_23 : decode cX6_tell 23 = .ok (.bipush 32, 2) := by decide +kernel
theorem dX6_tell_25 : decode cX6_tell 25 = .ok (.invokevirtual 170, 3) := by decide +kernel
theorem dX6_tell_28 : decode cX6_tell 28 = .ok (.aload_n 0, 1) := by decide +kernel
theorem dX6_tell_29 : decode cX6_tell 29 = .ok (.aload_n 0, 1) := by decide +kernel
theorem dX6_tell_30 : decode cX6_tell 30 = .ok (.getfield 12, 3) := by decide +kernel
theorem dX6_tell_33 : decode cX6_tell 33 = .ok (.sipush 224, 3) := by decide +kernel
theorem dX6_tell_36 : decode cX6_tell 36 = .ok (.iload_n 1, 1) := by decide +kernel
theorem dX6_tell_37 : decode cX6_tell 37 = .ok (.iadd, 1) := by decide +kernel
theorem dX6_tell_38 : decode cX6_tell 38 = .ok (.invokevirtual 137, 3) := by decide +kernel
theorem dX6_tell_41 : decode cX6_tell 41 = .ok (.invokevirtual 197, 3) := by decide +kernel
theorem dX6_tell_44 : decode cX6_tell 44 = .ok (.iinc 1 1, 3) := by decide +kernel
theorem dX6_tell_47 : decode cX6_tell 47 = .ok (.goto (-38), 3) := by decide +kernel
theorem dX6_tell_50 : decode cX6_tell 50 = .ok (.aload_n 0, 1) := by decide +kernel
theorem dX6_tell_51 : decode cX6_tell 51 = .ok (.getfield 56, 3) := by decide +kernel
theorem dX6_tell_54 : decode cX6_tell 54 = .ok (.invokevirtual 166, 3) := by decide +kernel
theorem dX6_tell_57 : decode cX6_tell 57 = .ok (.ireturn, 1) := by decide +kernel
theorem dX6_tellWaiting_0 : decode cX6_tellWaiting 0 = .ok (.aload_n 0, 1) := by decide +kernel
theorem dX6_tellWaiting_1 : decode cX6_tellWaiting 1 = .ok (.getfield 56, 3) := by decide +kernel
theorem dX6_tellWaiting_4 : decode cX6_tellWaiting 4 = .ok (.invokevirtual 177, 3) := by decide +kernel
theorem dX6_tellWaiting_7 : decode cX6_tellWaiting 7 = .ok (.iconst 0, 1) := by decide +kernel
theorem dX6_tellWaiting_8 : decode cX6_tellWaiting 8 = .ok (.istore_n 1, 1) := by decide +kernel
theorem dX6_tellWaiting_9 : decode cX6_tellWaiting 9 = .ok (.iload_n 1, 1) := by decide +kernel
theorem dX6_tellWaiting_10 : decode cX6_tellWaiting 10 = .ok (.bipush 16, 2) := by decide +kernel
theorem dX6_tellWaiting_12 : decode cX6_tellWaiting 12 = .ok (.if_icmp .ge 26, 3) := by decide +kernel
theorem dX6_tellWaiting_15 : decode cX6_tellWaiting 15 = .ok (.aload_n 0, 1) := by decide +kernel
theorem dX6_tellWaiting_16 : decode cX6_tellWaiting 16 = .ok (.getfield 12, 3) := by decide +kernel
theorem dX6_tellWaiting_19 : decode cX6_tellWaiting 19 = .ok (.iconst 0, 1) := by decide +kernel
theorem dX6_tellWaiting_20 : decode cX6_tellWaiting 20 = .ok (.iload_n 1, 1) := by decide +kernel
theorem dX6_tellWaiting_21 : decode cX6_tellWaiting 21 = .ok (.invokevirtual 121, 3) := by decide +kernel
theorem dX6_tellWaiting_24 : decode cX6_tellWaiting 24 = .ok (.ifCond .eq 8, 3) := by decide +kernel
theorem dX6_tellWaiting_27 : decode cX6_tellWaiting 27 = .ok (.aload_n 0, 1) := by decide +kernel
theorem dX6_tellWaiting_28 : decode cX6_tellWaiting 28 = .ok (.iload_n 1, 1) := by decide +kernel
theorem dX6_tellWaiting_29 : decode cX6_tellWaiting 29 = .ok (.invokevirtual 200, 3) := by decide +kernel
theorem dX6_tellWaiting_32 : decode cX6_tellWaiting 32 = .ok (.iinc 1 1, 3) := by decide +kernel
theorem dX6_tellWaiting_35 : decode cX6_tellWaiting 35 = .ok (.goto (-26), 3) := by decide +kernel
theorem dX6_tellWaiting_38 : decode cX6_tellWaiting 38 = .ok (.aload_n 0, 1) := by decide +kernel
theorem dX6_tellWaiting_39 : decode cX6_tellWaiting 39 = .ok (.getfield 56, 3) := by decide +kernel
theorem dX6_tellWaiting_42 : decode cX6_tellWaiting 42 = .ok (.invokevirtual 166, 3) := by decide +kernel
theorem dX6_tellWaiting_45 : decode cX6_tellWaiting 45 = .ok (.ireturn, 1) := by decide +kernel
theorem dX6_character_0 : decode cX6_character 0 = .ok (.aload_n 0, 1) := by decide +kernel
theorem dX6_character_1 : decode cX6_character 1 = .ok (.getfield 56, 3) := by decide +kernel
theorem dX6_character_4 : decode cX6_character 4 = .ok (.iload_n 1, 1) := by decide +kernel
theorem dX6_character_5 : decode cX6_character 5 = .ok (.invokevirtual 203, 3) := by decide +kernel
theorem dX6_character_8 : decode cX6_character 8 = .ok (.istore_n 2, 1) := by decide +kernel
theorem dX6_character_9 : decode cX6_character 9 = .ok (.iload_n 2, 1) := by decide +kernel
theorem dX6_character_10 : decode cX6_character 10 = .ok (.ifCond .ge 8, 3) := by decide +kernel
theorem dX6_character_13 : decode cX6_character 13 = .ok (.bipush (-11), 2) := by decide +kernel
theorem dX6_character_15 : decode cX6_character 15 = .ok (.goto 4, 3) := by decide +kernel
theorem dX6_character_18 : decode cX6_character 18 = .ok (.iload_n 2, 1) := by decide +kernel
theorem dX6_character_19 : decode cX6_character 19 = .ok (.ireturn, 1) := by decide +kernel
theorem dX6_reason_0 : decode cX6_reason 0 = .ok (.aload_n 0, 1) := by decide +kernel
theorem dX6_reason_1 : decode cX6_reason 1 = .ok (.getfield 67, 3) := by decide +kernel
theorem dX6_reason_4 : decode cX6_reason 4 = .ok (.ifCond .ne 6, 3) := by decide +kernel
theorem dX6_reason_7 : decode cX6_reason 7 = .ok (.bipush (-15), 2) := by decide +kernel
theorem dX6_reason_9 : decode cX6_reason 9 = .ok (.ireturn, 1) := by decide +kernel
theorem dX6_reason_10 : decode cX6_reason 10 = .ok (.iload_n 1, 1) := by decide +kernel
theorem dX6_reason_11 : decode cX6_reason 11 = .ok (.ifCond .eq 10, 3) := by decide +kernel
theorem dX6_reason_14 : decode cX6_reason 14 = .ok (.aload_n 0, 1) := by decide +kernel
theorem dX6_reason_15 : decode cX6_reason 15 = .ok (.getfield 71, 3) := by decide +kernel
theorem dX6_reason_18 : decode cX6_reason 18 = .ok (.goto 7, 3) := by decide +kernel
theorem dX6_reason_21 : decode cX6_reason 21 = .ok (.aload_n 0, 1) := by decide +kernel
theorem dX6_reason_22 : decode cX6_reason 22 = .ok (.getfield 67, 3) := by decide +kernel
theorem dX6_reason_25 : decode cX6_reason 25 = .ok (.ireturn, 1) := by decide +kernel
theorem dX6_account_0 : decode cX6_account 0 = .ok (.iload_n 1, 1) := by decide +kernel
theorem dX6_account_1 : decode cX6_account 1 = .ok (.tableswitch 247 0 16 #[83, 94, 105, 116, 125, 134, 143, 152, 157, 165, 176, 187, 198, 209, 220, 231, 239], 83) := by decide +kernel
theorem dX6_account_84 : decode cX6_account 84 = .ok (.aload_n 0, 1) := by decide +kernel
theorem dX6_account_85 : decode cX6_account 85 = .ok (.getfield 12, 3) := by decide +kernel
theorem dX6_account_88 : decode cX6_account 88 = .ok (.sipush 286, 3) := by decide +kernel
theorem dX6_account_91 : decode cX6_account 91 = .ok (.invokevirtual 137, 3) := by decide +kernel
theorem dX6_account_94 : decode cX6_account 94 = .ok (.ireturn, 1) := by decide +kernel
theorem dX6_account_95 : decode cX6_account 95 = .ok (.aload_n 0, 1) := by decide +kernel
theorem dX6_account_96 : decode cX6_account 96 = .ok (.getfield 12, 3) := by decide +kernel
theorem dX6_account_99 : decode cX6_account 99 = .ok (.sipush 287, 3) := by decide +kernel
theorem dX6_account_102 : decode cX6_account 102 = .ok (.invokevirtual 137, 3) := by decide +kernel
theorem dX6_account_105 : decode cX6_account 105 = .ok (.ireturn, 1) := by decide +kernel
theorem dX6_account_106 : decode cX6_account 106 = .ok (.aload_n 0, 1) := by decide +kernel
theorem dX6_account_107 : decode cX6_account 107 = .ok (.getfield 12, 3) := by decide +kernel
theorem dX6_account_110 : decode cX6_account 110 = .ok (.sipush 284, 3) := by decide +kernel
theorem dX6_account_113 : decode cX6_account 113 = .ok (.invokevirtual 137, 3) := by decide +kernel
theorem dX6_account_116 : decode cX6_account 116 = .ok (.ireturn, 1) := by decide +kernel
theorem dX6_account_117 : decode cX6_account 117 = .ok (.aload_n 0, 1) := by decide +kernel
theorem dX6_account_118 : decode cX6_account 118 = .ok (.getfield 12, 3) := by decide +kernel
theorem dX6_account_121 : decode cX6_account 121 = .ok (.iconst 0, 1) := by decide +kernel
theorem dX6_account_122 : decode cX6_account 122 = .ok (.invokevirtual 206, 3) := by decide +kernel
theorem dX6_account_125 : decode cX6_account 125 = .ok (.ireturn, 1) := by decide +kernel
theorem dX6_account_126 : decode cX6_account 126 = .ok (.aload_n 0, 1) := by decide +kernel
theorem dX6_account_127 : decode cX6_account 127 = .ok (.getfield 12, 3) := by decide +kernel
theorem dX6_account_130 : decode cX6_account 130 = .ok (.iconst 1, 1) := by decide +kernel
theorem dX6_account_131 : decode cX6_account 131 = .ok (.invokevirtual 206, 3) := by decide +kernel
theorem dX6_account_134 : decode cX6_account 134 = .ok (.ireturn, 1) := by decide +kernel
theorem dX6_account_135 : decode cX6_account 135 = .ok (.aload_n 0, 1) := by decide +kernel
theorem dX6_account_136 : decode cX6_account 136 = .ok (.getfield 12, 3) := by decide +kernel
theorem dX6_account_139 : decode cX6_account 139 = .ok (.iconst 2, 1) := by decide +kernel
theorem dX6_account_140 : decode cX6_account 140 = .ok (.invokevirtual 206, 3) := by decide +kernel
theorem dX6_account_143 : decode cX6_account 143 = .ok (.ireturn, 1) := by decide +kernel
theorem dX6_account_144 : decode cX6_account 144 = .ok (.aload_n 0, 1) := by decide +kernel
theorem dX6_account_145 : decode cX6_account 145 = .ok (.getfield 12, 3) := by decide +kernel
theorem dX6_account_148 : decode cX6_account 148 = .ok (.iconst 3, 1) := by decide +kernel
theorem dX6_account_149 : decode cX6_account 149 = .ok (.invokevirtual 206, 3) := by decide +kernel
theorem dX6_account_152 : decode cX6_account 152 = .ok (.ireturn, 1) := by decide +kernel
theorem dX6_account_153 : decode cX6_account 153 = .ok (.aload_n 0, 1) := by decide +kernel
theorem dX6_account_154 : decode cX6_account 154 = .ok (.invokevirtual 209, 3) := by decide +kernel
theorem dX6_account_157 : decode cX6_account 157 = .ok (.ireturn, 1) := by decide +kernel
theorem dX6_account_158 : decode cX6_account 158 = .ok (.aload_n 0, 1) := by decide +kernel
theorem dX6_account_159 : decode cX6_account 159 = .ok (.getfield 12, 3) := by decide +kernel
theorem dX6_account_162 : decode cX6_account 162 = .ok (.invokevirtual 212, 3) := by decide +kernel
theorem dX6_account_165 : decode cX6_account 165 = .ok (.ireturn, 1) := by decide +kernel
theorem dX6_account_166 : decode cX6_account 166 = .ok (.aload_n 0, 1) := by decide +kernel
theorem dX6_account_167 : decode cX6_account 167 = .ok (.getfield 12, 3) := by decide +kernel
theorem dX6_account_170 : decode cX6_account 170 = .ok (.sipush 288, 3) := by decide +kernel
theorem dX6_account_173 : decode cX6_account 173 = .ok (.invokevirtual 137, 3) := by decide +kernel
theorem dX6_account_176 : decode cX6_account 176 = .ok (.ireturn, 1) := by decide +kernel
theorem dX6_account_177 : decode cX6_account 177 = .ok (.aload_n 0, 1) := by decide +kernel
theorem dX6_account_178 : decode cX6_account 178 = .ok (.getfield 12, 3) := by decide +kernel
theorem dX6_account_181 : decode cX6_account 181 = .ok (.sipush 289, 3) := by decide +kernel
theorem dX6_account_184 : decode cX6_account 184 = .ok (.invokevirtual 137, 3) := by decide +kernel
theorem dX6_account_187 : decode cX6_account 187 = .ok (.ireturn, 1) := by decide +kernel
theorem dX6_account_188 : decode cX6_account 188 = .ok (.aload_n 0, 1) := by decide +kernel
theorem dX6_account_189 : decode cX6_account 189 = .ok (.getfield 12, 3) := by decide +kernel
theorem dX6_account_192 : decode cX6_account 192 = .ok (.sipush 290, 3) := by decide +kernel
theorem dX6_account_195 : decode cX6_account 195 = .ok (.invokevirtual 137, 3) := by decide +kernel
theorem dX6_account_198 : decode cX6_account 198 = .ok (.ireturn, 1) := by decide +kernel
theorem dX6_account_199 : decode cX6_account 199 = .ok (.aload_n 0, 1) := by decide +kernel
theorem dX6_account_200 : decode cX6_account 200 = .ok (.getfield 12, 3) := by decide +kernel
theorem dX6_account_203 : decode cX6_account 203 = .ok (.sipush 291, 3) := by decide +kernel
theorem dX6_account_206 : decode cX6_account 206 = .ok (.invokevirtual 137, 3) := by decide +kernel
theorem dX6_account_209 : decode cX6_account 209 = .ok (.ireturn, 1) := by decide +kernel
theorem dX6_account_210 : decode cX6_account 210 = .ok (.aload_n 0, 1) := by decide +kernel
theorem dX6_account_211 : decode cX6_account 211 = .ok (.getfield 12, 3) := by decide +kernel
theorem dX6_account_214 : decode cX6_account 214 = .ok (.sipush 292, 3) := by decide +kernel
theorem dX6_account_217 : decode cX6_account 217 = .ok (.invokevirtual 137, 3) := by decide +kernel
theorem dX6_account_220 : decode cX6_account 220 = .ok (.ireturn, 1) := by decide +kernel
theorem dX6_account_221 : decode cX6_account 221 = .ok (.aload_n 0, 1) := by decide +kernel
theorem dX6_account_222 : decode cX6_account 222 = .ok (.getfield 12, 3) := by decide +kernel
theorem dX6_account_225 : decode cX6_account 225 = .ok (.sipush 293, 3) := by decide +kernel
theorem dX6_account_228 : decode cX6_account 228 = .ok (.invokevirtual 137, 3) := by decide +kernel
theorem dX6_account_231 : decode cX6_account 231 = .ok (.ireturn, 1) := by decide +kernel
theorem dX6_account_232 : decode cX6_account 232 = .ok (.aload_n 0, 1) := by decide +kernel
theorem dX6_account_233 : decode cX6_account 233 = .ok (.getfield 52, 3) := by decide +kernel
theorem dX6_account_236 : decode cX6_account 236 = .ok (.invokevirtual 166, 3) := by decide +kernel
theorem dX6_account_239 : decode cX6_account 239 = .ok (.ireturn, 1) := by decide +kernel
theorem dX6_account_240 : decode cX6_account 240 = .ok (.aload_n 0, 1) := by decide +kernel
theorem dX6_account_241 : decode cX6_account 241 = .ok (.getfield 36, 3) := by decide +kernel
theorem dX6_account_244 : decode cX6_account 244 = .ok (.invokevirtual 215, 3) := by decide +kernel
theorem dX6_account_247 : decode cX6_account 247 = .ok (.ireturn, 1) := by decide +kernel
theorem dX6_account_248 : decode cX6_account 248 = .ok (.bipush (-12), 2) := by decide +kernel
theorem dX6_account_250 : decode cX6_account 250 = .ok (.ireturn, 1) := by decide +kernel
theorem dX6_isBalanced_0 : decode cX6_isBalanced 0 = .ok (.bipush 100, 2) := by decide +kernel
theorem dX6_isBalanced_2 : decode cX6_isBalanced 2 = .ok (.aload_n 0, 1) := by decide +kernel
theorem dX6_isBalanced_3 : decode cX6_isBalanced 3 = .ok (.getfield 12, 3) := by decide +kernel
theorem dX6_isBalanced_6 : decode cX6_isBalanced 6 = .ok (.sipush 289, 3) := by decide +kernel
theorem dX6_isBalanced_9 : decode cX6_isBalanced 9 = .ok (.invokevirtual 137, 3) := by decide +kernel
theorem dX6_isBalanced_12 : decode cX6_isBalanced 12 = .ok (.iadd, 1) := by decide +kernel
theorem dX6_isBalanced_13 : decode cX6_isBalanced 13 = .ok (.aload_n 0, 1) := by decide +kernel
theorem dX6_isBalanced_14 : decode cX6_isBalanced 14 = .ok (.getfield 12, 3) := by decide +kernel
theorem dX6_isBalanced_17 : decode cX6_isBalanced 17 = .ok (.sipush 290, 3) := by decide +kernel
theorem dX6_isBalanced_20 : decode cX6_isBalanced 20 = .ok (.invokevirtual 137, 3) := by decide +kernel
theorem dX6_isBalanced_23 : decode cX6_isBalanced 23 = .ok (.isub, 1) := by decide +kernel
theorem dX6_isBalanced_24 : decode cX6_isBalanced 24 = .ok (.aload_n 0, 1) := by decide +kernel
theorem dX6_isBalanced_25 : decode cX6_isBalanced 25 = .ok (.getfield 12, 3) := by decide +kernel
theorem dX6_isBalanced_28 : decode cX6_isBalanced 28 = .ok (.sipush 291, 3) := by decide +kernel
theorem dX6_isBalanced_31 : decode cX6_isBalanced 31 = .ok (.invokevirtual 137, 3) := by decide +kernel
theorem dX6_isBalanced_34 : decode cX6_isBalanced 34 = .ok (.isub, 1) := by decide +kernel
theorem dX6_isBalanced_35 : decode cX6_isBalanced 35 = .ok (.istore_n 1, 1) := by decide +kernel
theorem dX6_isBalanced_36 : decode cX6_isBalanced 36 = .ok (.iconst 0, 1) := by decide +kernel
theorem dX6_isBalanced_37 : decode cX6_isBalanced 37 = .ok (.istore_n 2, 1) := by decide +kernel
theorem dX6_isBalanced_38 : decode cX6_isBalanced 38 = .ok (.iconst 1, 1) := by decide +kernel
theorem dX6_isBalanced_39 : decode cX6_isBalanced 39 = .ok (.istore_n 3, 1) := by decide +kernel
theorem dX6_isBalanced_40 : decode cX6_isBalanced 40 = .ok (.iconst 0, 1) := by decide +kernel
theorem dX6_isBalanced_41 : decode cX6_isBalanced 41 = .ok (.istore 4, 2) := by decide +kernel
theorem dX6_isBalanced_43 : decode cX6_isBalanced 43 = .ok (.iload 4, 2) := by decide +kernel
theorem dX6_isBalanced_45 : decode cX6_isBalanced 45 = .ok (.bipush 16, 2) := by decide +kernel
theorem dX6_isBalanced_47 : decode cX6_isBalanced 47 = .ok (.if_icmp .ge 60, 3) := by decide +kernel
theorem dX6_isBalanced_50 : decode cX6_isBalanced 50 = .ok (.iload_n 2, 1) := by decide +kernel
theorem dX6_isBalanced_51 : decode cX6_isBalanced 51 = .ok (.aload_n 0, 1) := by decide +kernel
theorem dX6_isBalanced_52 : decode cX6_isBalanced 52 = .ok (.getfield 12, 3) := by decide +kernel
theorem dX6_isBalanced_55 : decode cX6_isBalanced 55 = .ok (.bipush 6, 2) := by decide +kernel
theorem dX6_isBalanced_57 : decode cX6_isBalanced 57 = .ok (.iload 4, 2) := by decide +kernel
theorem dX6_isBalanced_59 : decode cX6_isBalanced 59 = .ok (.invokevirtual 118, 3) := by decide +kernel
theorem dX6_isBalanced_62 : decode cX6_isBalanced 62 = .ok (.iadd, 1) := by decide +kernel
theorem dX6_isBalanced_63 : decode cX6_isBalanced 63 = .ok (.istore_n 2, 1) := by decide +kernel
theorem dX6_isBalanced_64 : decode cX6_isBalanced 64 = .ok (.iload_n 3, 1) := by decide +kernel
theorem dX6_isBalanced_65 : decode cX6_isBalanced 65 = .ok (.ifCond .eq 34, 3) := by decide +kernel
theorem dX6_isBalanced_68 : decode cX6_isBalanced 68 = .ok (.aload_n 0, 1) := by decide +kernel
theorem dX6_isBalanced_69 : decode cX6_isBalanced 69 = .ok (.iload 4, 2) := by decide +kernel
theorem dX6_isBalanced_71 : decode cX6_isBalanced 71 = .ok (.invokevirtual 216, 3) := by decide +kernel
theorem dX6_isBalanced_74 : decode cX6_isBalanced 74 = .ok (.aload_n 0, 1) := by decide +kernel
theorem dX6_isBalanced_75 : decode cX6_isBalanced 75 = .ok (.getfield 12, 3) := by decide +kernel
theorem dX6_isBalanced_78 : decode cX6_isBalanced 78 = .ok (.iconst 1, 1) := by decide +kernel
theorem dX6_isBalanced_79 : decode cX6_isBalanced 79 = .ok (.iload 4, 2) := by decide +kernel
theorem dX6_isBalanced_81 : decode cX6_isBalanced 81 = .ok (.invokevirtual 121, 3) := by decide +kernel
theorem dX6_isBalanced_84 : decode cX6_isBalanced 84 = .ok (.ifCond .eq 7, 3) := by decide +kernel
theorem dX6_isBalanced_87 : decode cX6_isBalanced 87 = .ok (.iconst 1, 1) := by decide +kernel
theorem dX6_isBalanced_88 : decode cX6_isBalanced 88 = .ok (.goto 4, 3) := by decide +kernel
theorem dX6_isBalanced_91 : decode cX6_isBalanced 91 = .ok (.iconst 0, 1) := by decide +kernel
theorem dX6_isBalanced_92 : decode cX6_isBalanced 92 = .ok (.if_icmp .ne 7, 3) := by decide +kernel
theorem dX6_isBalanced_95 : decode cX6_isBalanced 95 = .ok (.iconst 1, 1) := by decide +kernel
theorem dX6_isBalanced_96 : decode cX6_isBalanced 96 = .ok (.goto 4, 3) := by decide +kernel
theorem dX6_isBalanced_99 : decode cX6_isBalanced 99 = .ok (.iconst 0, 1) := by decide +kernel
theorem dX6_isBalanced_100 : decode cX6_isBalanced 100 = .ok (.istore_n 3, 1) := by decide +kernel
theorem dX6_isBalanced_101 : decode cX6_isBalanced 101 = .ok (.iinc 4 1, 3) := by decide +kernel
theorem dX6_isBalanced_104 : decode cX6_isBalanced 104 = .ok (.goto (-61), 3) := by decide +kernel
theorem dX6_isBalanced_107 : decode cX6_isBalanced 107 = .ok (.iload_n 3, 1) := by decide +kernel
theorem dX6_isBalanced_108 : decode cX6_isBalanced 108 = .ok (.ifCond .eq 35, 3) := by decide +kernel
theorem dX6_isBalanced_111 : decode cX6_isBalanced 111 = .ok (.aload_n 0, 1) := by decide +kernel
theorem dX6_isBalanced_112 : decode cX6_isBalanced 112 = .ok (.getfield 12, 3) := by decide +kernel
theorem dX6_isBalanced_115 : decode cX6_isBalanced 115 = .ok (.sipush 288, 3) := by decide +kernel
theorem dX6_isBalanced_118 : decode cX6_isBalanced 118 = .ok (.invokevirtual 137, 3) := by decide +kernel
theorem dX6_isBalanced_121 : decode cX6_isBalanced 121 = .ok (.iload_n 1, 1) := by decide +kernel
theorem dX6_isBalanced_122 : decode cX6_isBalanced 122 = .ok (.if_icmp .ne 21, 3) := by decide +kernel
theorem dX6_isBalanced_125 : decode cX6_isBalanced 125 = .ok (.aload_n 0, 1) := by decide +kernel
theorem dX6_isBalanced_126 : decode cX6_isBalanced 126 = .ok (.getfield 12, 3) := by decide +kernel
theorem dX6_isBalanced_129 : decode cX6_isBalanced 129 = .ok (.sipush 290, 3) := by decide +kernel
theorem dX6_isBalanced_132 : decode cX6_isBalanced 132 = .ok (.invokevirtual 137, 3) := by decide +kernel
theorem dX6_isBalanced_135 : decode cX6_isBalanced 135 = .ok (.iload_n 2, 1) := by decide +kernel
theorem dX6_isBalanced_136 : decode cX6_isBalanced 136 = .ok (.if_icmp .ne 7, 3) := by decide +kernel
theorem dX6_isBalanced_139 : decode cX6_isBalanced 139 = .ok (.iconst 1, 1) := by decide +kernel
theorem dX6_isBalanced_140 : decode cX6_isBalanced 140 = .ok (.goto 4, 3) := by decide +kernel
theorem dX6_isBalanced_143 : decode cX6_isBalanced 143 = .ok (.iconst 0, 1) := by decide +kernel
theorem dX6_isBalanced_144 : decode cX6_isBalanced 144 = .ok (.ireturn, 1) := by decide +kernel
theorem dX6_meanAge_0 : decode cX6_meanAge 0 = .ok (.iconst 0, 1) := by decide +kernel
theorem dX6_meanAge_1 : decode cX6_meanAge 1 = .ok (.istore_n 1, 1) := by decide +kernel
theorem dX6_meanAge_2 : decode cX6_meanAge 2 = .ok (.iconst 0, 1) := by decide +kernel
theorem dX6_meanAge_3 : decode cX6_meanAge 3 = .ok (.istore_n 2, 1) := by decide +kernel
theorem dX6_meanAge_4 : decode cX6_meanAge 4 = .ok (.iconst 0, 1) := by decide +kernel
theorem dX6_meanAge_5 : decode cX6_meanAge 5 = .ok (.istore_n 3, 1) := by decide +kernel
theorem dX6_meanAge_6 : decode cX6_meanAge 6 = .ok (.iload_n 3, 1) := by decide +kernel
theorem dX6_meanAge_7 : decode cX6_meanAge 7 = .ok (.bipush 16, 2) := by decide +kernel
theorem dX6_meanAge_9 : decode cX6_meanAge 9 = .ok (.if_icmp .ge 36, 3) := by decide +kernel
theorem dX6_meanAge_12 : decode cX6_meanAge 12 = .ok (.aload_n 0, 1) := by decide +kernel
theorem dX6_meanAge_13 : decode cX6_meanAge 13 = .ok (.getfield 12, 3) := by decide +kernel
theorem dX6_meanAge_16 : decode cX6_meanAge 16 = .ok (.iconst 1, 1) := by decide +kernel
theorem dX6_meanAge_17 : decode cX6_meanAge 17 = .ok (.iload_n 3, 1) := by decide +kernel
theorem dX6_meanAge_18 : decode cX6_meanAge 18 = .ok (.invokevirtual 121, 3) := by decide +kernel
theorem dX6_meanAge_21 : decode cX6_meanAge 21 = .ok (.ifCond .eq 18, 3) := by decide +kernel
theorem dX6_meanAge_24 : decode cX6_meanAge 24 = .ok (.iinc 1 1, 3) := by decide +kernel
theorem dX6_meanAge_27 : decode cX6_meanAge 27 = .ok (.iload_n 2, 1) := by decide +kernel
theorem dX6_meanAge_28 : decode cX6_meanAge 28 = .ok (.aload_n 0, 1) := by decide +kernel
theorem dX6_meanAge_29 : decode cX6_meanAge 29 = .ok (.getfield 12, 3) := by decide +kernel
theorem dX6_meanAge_32 : decode cX6_meanAge 32 = .ok (.iconst 0, 1) := by decide +kernel
theorem dX6_meanAge_33 : decode cX6_meanAge 33 = .ok (.iload_n 3, 1) := by decide +kernel
theorem dX6_meanAge_34 : decode cX6_meanAge 34 = .ok (.invokevirtual 118, 3) := by decide +kernel
theorem dX6_meanAge_37 : decode cX6_meanAge 37 = .ok (.iadd, 1) := by decide +kernel
theorem dX6_meanAge_38 : decode cX6_meanAge 38 = .ok (.istore_n 2, 1) := by decide +kernel
theorem dX6_meanAge_39 : decode cX6_meanAge 39 = .ok (.iinc 3 1, 3) := by decide +kernel
theorem dX6_meanAge_42 : decode cX6_meanAge 42 = .ok (.goto (-36), 3) := by decide +kernel
theorem dX6_meanAge_45 : decode cX6_meanAge 45 = .ok (.iload_n 1, 1) := by decide +kernel
theorem dX6_meanAge_46 : decode cX6_meanAge 46 = .ok (.ifCond .ne 7, 3) := by decide +kernel
theorem dX6_meanAge_49 : decode cX6_meanAge 49 = .ok (.dconst 0, 1) := by decide +kernel
theorem dX6_meanAge_50 : decode cX6_meanAge 50 = .ok (.goto 8, 3) := by decide +kernel
theorem dX6_meanAge_53 : decode cX6_meanAge 53 = .ok (.iload_n 2, 1) := by decide +kernel
theorem dX6_meanAge_54 : decode cX6_meanAge 54 = .ok (.i2d, 1) := by decide +kernel
theorem dX6_meanAge_55 : decode cX6_meanAge 55 = .ok (.iload_n 1, 1) := by decide +kernel
theorem dX6_meanAge_56 : decode cX6_meanAge 56 = .ok (.i2d, 1) := by decide +kernel
theorem dX6_meanAge_57 : decode cX6_meanAge 57 = .ok (.ddiv, 1) := by decide +kernel
theorem dX6_meanAge_58 : decode cX6_meanAge 58 = .ok (.dreturn, 1) := by decide +kernel
theorem dX6_entitledShare_0 : decode cX6_entitledShare 0 = .ok (.aload_n 0, 1) := by decide +kernel
theorem dX6_entitledShare_1 : decode cX6_entitledShare 1 = .ok (.getfield 12, 3) := by decide +kernel
theorem dX6_entitledShare_4 : decode cX6_entitledShare 4 = .ok (.iconst 1, 1) := by decide +kernel
theorem dX6_entitledShare_5 : decode cX6_entitledShare 5 = .ok (.invokevirtual 206, 3) := by decide +kernel
theorem dX6_entitledShare_8 : decode cX6_entitledShare 8 = .ok (.istore_n 1, 1) := by decide +kernel
theorem dX6_entitledShare_9 : decode cX6_entitledShare 9 = .ok (.iload_n 1, 1) := by decide +kernel
theorem dX6_entitledShare_10 : decode cX6_entitledShare 10 = .ok (.ifCond .ne 7, 3) := by decide +kernel
theorem dX6_entitledShare_13 : decode cX6_entitledShare 13 = .ok (.fconst 0, 1) := by decide +kernel
theorem dX6_entitledShare_14 : decode cX6_entitledShare 14 = .ok (.goto 14, 3) := by decide +kernel
theorem dX6_entitledShare_17 : decode cX6_entitledShare 17 = .ok (.aload_n 0, 1) := by decide +kernel
theorem dX6_entitledShare_18 : decode cX6_entitledShare 18 = .ok (.getfield 12, 3) := by decide +kernel
theorem dX6_entitledShare_21 : decode cX6_entitledShare 21 = .ok (.invokevirtual 219, 3) := by decide +kernel
theorem dX6_entitledShare_24 : decode cX6_entitledShare 24 = .ok (.i2f, 1) := by decide +kernel
theorem dX6_entitledShare_25 : decode cX6_entitledShare 25 = .ok (.iload_n 1, 1) := by decide +kernel
theorem dX6_entitledShare_26 : decode cX6_entitledShare 26 = .ok (.i2f, 1) := by decide +kernel
theorem dX6_entitledShare_27 : decode cX6_entitledShare 27 = .ok (.fdiv, 1) := by decide +kernel
theorem dX6_entitledShare_28 : decode cX6_entitledShare 28 = .ok (.freturn, 1) := by decide +kernel
theorem dX6_undo_0 : decode cX6_undo 0 = .ok (.aload_n 0, 1) := by decide +kernel
theorem dX6_undo_1 : decode cX6_undo 1 = .ok (.getfield 36, 3) := by decide +kernel
theorem dX6_undo_4 : decode cX6_undo 4 = .ok (.aload_n 0, 1) := by decide +kernel
theorem dX6_undo_5 : decode cX6_undo 5 = .ok (.getfield 12, 3) := by decide +kernel
theorem dX6_undo_8 : decode cX6_undo 8 = .ok (.invokevirtual 222, 3) := by decide +kernel
theorem dX6_undo_11 : decode cX6_undo 11 = .ok (.ifCond .eq 13, 3) := by decide +kernel
theorem dX6_undo_14 : decode cX6_undo 14 = .ok (.aload_n 0, 1) := by decide +kernel
theorem dX6_undo_15 : decode cX6_undo 15 = .ok (.getfield 36, 3) := by decide +kernel
theorem dX6_undo_18 : decode cX6_undo 18 = .ok (.invokevirtual 215, 3) := by decide +kernel
theorem dX6_undo_21 : decode cX6_undo 21 = .ok (.goto 5, 3) := by decide +kernel
theorem dX6_undo_24 : decode cX6_undo 24 = .ok (.bipush (-15), 2) := by decide +kernel
theorem dX6_undo_26 : decode cX6_undo 26 = .ok (.ireturn, 1) := by decide +kernel
theorem dX6_save_0 : decode cX6_save 0 = .ok (.aload_n 0, 1) := by decide +kernel
theorem dX6_save_1 : decode cX6_save 1 = .ok (.getfield 16, 3) := by decide +kernel
theorem dX6_save_4 : decode cX6_save 4 = .ok (.aload_n 0, 1) := by decide +kernel
theorem dX6_save_5 : decode cX6_save 5 = .ok (.getfield 12, 3) := by decide +kernel
theorem dX6_save_8 : decode cX6_save 8 = .ok (.invokevirtual 226, 3) := by decide +kernel
theorem dX6_save_11 : decode cX6_save 11 = .ok (.aload_n 0, 1) := by decide +kernel
theorem dX6_save_12 : decode cX6_save 12 = .ok (.iconst 1, 1) := by decide +kernel
theorem dX6_save_13 : decode cX6_save 13 = .ok (.putfield 63, 3) := by decide +kernel
theorem dX6_save_16 : decode cX6_save 16 = .ok (.aload_n 0, 1) := by decide +kernel
theorem dX6_save_17 : decode cX6_save 17 = .ok (.getfield 12, 3) := by decide +kernel
theorem dX6_save_20 : decode cX6_save 20 = .ok (.sipush 284, 3) := by decide +kernel
theorem dX6_save_23 : decode cX6_save 23 = .ok (.invokevirtual 137, 3) := by decide +kernel
theorem dX6_save_26 : decode cX6_save 26 = .ok (.ireturn, 1) := by decide +kernel
theorem dX6_restore_0 : decode cX6_restore 0 = .ok (.aload_n 0, 1) := by decide +kernel
theorem dX6_restore_1 : decode cX6_restore 1 = .ok (.getfield 63, 3) := by decide +kernel
theorem dX6_restore_4 : decode cX6_restore 4 = .ok (.ifCond .ne 6, 3) := by decide +kernel
theorem dX6_restore_7 : decode cX6_restore 7 = .ok (.bipush (-15), 2) := by decide +kernel
theorem dX6_restore_9 : decode cX6_restore 9 = .ok (.ireturn, 1) := by decide +kernel
theorem dX6_restore_10 : decode cX6_restore 10 = .ok (.aload_n 0, 1) := by decide +kernel
theorem dX6_restore_11 : decode cX6_restore 11 = .ok (.getfield 12, 3) := by decide +kernel
theorem dX6_restore_14 : decode cX6_restore 14 = .ok (.aload_n 0, 1) := by decide +kernel
theorem dX6_restore_15 : decode cX6_restore 15 = .ok (.getfield 16, 3) := by decide +kernel
theorem dX6_restore_18 : decode cX6_restore 18 = .ok (.invokevirtual 226, 3) := by decide +kernel
theorem dX6_restore_21 : decode cX6_restore 21 = .ok (.aload_n 0, 1) := by decide +kernel
theorem dX6_restore_22 : decode cX6_restore 22 = .ok (.getfield 36, 3) := by decide +kernel
theorem dX6_restore_25 : decode cX6_restore 25 = .ok (.invokevirtual 230, 3) := by decide +kernel
theorem dX6_restore_28 : decode cX6_restore 28 = .ok (.aload_n 0, 1) := by decide +kernel
theorem dX6_restore_29 : decode cX6_restore 29 = .ok (.getfield 12, 3) := by decide +kernel
theorem dX6_restore_32 : decode cX6_restore 32 = .ok (.sipush 284, 3) := by decide +kernel
theorem dX6_restore_35 : decode cX6_restore 35 = .ok (.invokevirtual 137, 3) := by decide +kernel
theorem dX6_restore_38 : decode cX6_restore 38 = .ok (.ireturn, 1) := by decide +kernel
theorem dX6_onTrial_0 : decode cX6_onTrial 0 = .ok (.aload_n 0, 1) := by decide +kernel
theorem dX6_onTrial_1 : decode cX6_onTrial 1 = .ok (.getfield 22, 3) := by decide +kernel
theorem dX6_onTrial_4 : decode cX6_onTrial 4 = .ok (.aload_n 0, 1) := by decide +kernel
theorem dX6_onTrial_5 : decode cX6_onTrial 5 = .ok (.getfield 12, 3) := by decide +kernel
theorem dX6_onTrial_8 : decode cX6_onTrial 8 = .ok (.invokevirtual 233, 3) := by decide +kernel
theorem dX6_onTrial_11 : decode cX6_onTrial 11 = .ok (.aload_n 0, 1) := by decide +kernel
theorem dX6_onTrial_12 : decode cX6_onTrial 12 = .ok (.getfield 22, 3) := by decide +kernel
theorem dX6_onTrial_15 : decode cX6_onTrial 15 = .ok (.areturn, 1) := by decide +kernel
theorem dX6_settle_0 : decode cX6_settle 0 = .ok (.iload_n 1, 1) := by decide +kernel
theorem dX6_settle_1 : decode cX6_settle 1 = .ok (.ifCond .lt 31, 3) := by decide +kernel
theorem dX6_settle_4 : decode cX6_settle 4 = .ok (.aload_n 0, 1) := by decide +kernel
theorem dX6_settle_5 : decode cX6_settle 5 = .ok (.getfield 36, 3) := by decide +kernel
theorem dX6_settle_8 : decode cX6_settle 8 = .ok (.aload_n 0, 1) := by decide +kernel
theorem dX6_settle_9 : decode cX6_settle 9 = .ok (.getfield 12, 3) := by decide +kernel
theorem dX6_settle_12 : decode cX6_settle 12 = .ok (.invokevirtual 236, 3) := by decide +kernel
theorem dX6_settle_15 : decode cX6_settle 15 = .ok (.aload_n 0, 1) := by decide +kernel
theorem dX6_settle_16 : decode cX6_settle 16 = .ok (.getfield 12, 3) := by decide +kernel
theorem dX6_settle_19 : decode cX6_settle 19 = .ok (.aload_n 0, 1) := by decide +kernel
theorem dX6_settle_20 : decode cX6_settle 20 = .ok (.getfield 22, 3) := by decide +kernel
theorem dX6_settle_23 : decode cX6_settle 23 = .ok (.invokevirtual 239, 3) := by decide +kernel
theorem dX6_settle_26 : decode cX6_settle 26 = .ok (.invokevirtual 226, 3) := by decide +kernel
theorem dX6_settle_29 : decode cX6_settle 29 = .ok (.goto 31, 3) := by decide +kernel
theorem dX6_settle_32 : decode cX6_settle 32 = .ok (.iload_n 1, 1) := by decide +kernel
theorem dX6_settle_33 : decode cX6_settle 33 = .ok (.bipush (-14), 2) := by decide +kernel
theorem dX6_settle_35 : decode cX6_settle 35 = .ok (.if_icmp .ne 25, 3) := by decide +kernel
theorem dX6_settle_38 : decode cX6_settle 38 = .ok (.aload_n 0, 1) := by decide +kernel
theorem dX6_settle_39 : decode cX6_settle 39 = .ok (.aload_n 0, 1) := by decide +kernel
theorem dX6_settle_40 : decode cX6_settle 40 = .ok (.getfield 22, 3) := by decide +kernel
theorem dX6_settle_43 : decode cX6_settle 43 = .ok (.invokevirtual 243, 3) := by decide +kernel
theorem dX6_settle_46 : decode cX6_settle 46 = .ok (.putfield 67, 3) := by decide +kernel
theorem dX6_settle_49 : decode cX6_settle 49 = .ok (.aload_n 0, 1) := by decide +kernel
theorem dX6_settle_50 : decode cX6_settle 50 = .ok (.aload_n 0, 1) := by decide +kernel
theorem dX6_settle_51 : decode cX6_settle 51 = .ok (.getfield 22, 3) := by decide +kernel
theorem dX6_settle_54 : decode cX6_settle 54 = .ok (.invokevirtual 246, 3) := by decide +kernel
theorem dX6_settle_57 : decode cX6_settle 57 = .ok (.putfield 71, 3) := by decide +kernel
theorem dX6_settle_60 : decode cX6_settle 60 = .ok (.iload_n 1, 1) := by decide +kernel
theorem dX6_settle_61 : decode cX6_settle 61 = .ok (.ireturn, 1) := by decide +kernel
theorem dX6_isCell_0 : decode cX6_isCell 0 = .ok (.iload_n 0, 1) := by decide +kernel
theorem dX6_isCell_1 : decode cX6_isCell 1 = .ok (.ifCond .lt 13, 3) := by decide +kernel
theorem dX6_isCell_4 : decode cX6_isCell 4 = .ok (.iload_n 0, 1) := by decide +kernel
theorem dX6_isCell_5 : decode cX6_isCell 5 = .ok (.bipush 8, 2) := by decide +kernel
theorem dX6_isCell_7 : decode cX6_isCell 7 = .ok (.if_icmp .ge 7, 3) := by decide +kernel
theorem dX6_isCell_10 : decode cX6_isCell 10 = .ok (.iconst 1, 1) := by decide +kernel
theorem dX6_isCell_11 : decode cX6_isCell 11 = .ok (.goto 4, 3) := by decide +kernel
theorem dX6_isCell_14 : decode cX6_isCell 14 = .ok (.iconst 0, 1) := by decide +kernel
theorem dX6_isCell_15 : decode cX6_isCell 15 = .ok (.ireturn, 1) := by decide +kernel
theorem dX6_isRule_0 : decode cX6_isRule 0 = .ok (.iload_n 0, 1) := by decide +kernel
theorem dX6_isRule_1 : decode cX6_isRule 1 = .ok (.ifCond .lt 12, 3) := by decide +kernel
theorem dX6_isRule_4 : decode cX6_isRule 4 = .ok (.iload_n 0, 1) := by decide +kernel
theorem dX6_isRule_5 : decode cX6_isRule 5 = .ok (.iconst 5, 1) := by decide +kernel
theorem dX6_isRule_6 : decode cX6_isRule 6 = .ok (.if_icmp .ge 7, 3) := by decide +kernel
theorem dX6_isRule_9 : decode cX6_isRule 9 = .ok (.iconst 1, 1) := by decide +kernel
theorem dX6_isRule_10 : decode cX6_isRule 10 = .ok (.goto 4, 3) := by decide +kernel
theorem dX6_isRule_13 : decode cX6_isRule 13 = .ok (.iconst 0, 1) := by decide +kernel
theorem dX6_isRule_14 : decode cX6_isRule 14 = .ok (.ireturn, 1) := by decide +kernel
theorem dX6_breachesOf_0 : decode cX6_breachesOf 0 = .ok (.iconst 0, 1) := by decide +kernel
theorem dX6_breachesOf_1 : decode cX6_breachesOf 1 = .ok (.istore_n 2, 1) := by decide +kernel
theorem dX6_breachesOf_2 : decode cX6_breachesOf 2 = .ok (.iconst 0, 1) := by decide +kernel
theorem dX6_breachesOf_3 : decode cX6_breachesOf 3 = .ok (.istore_n 3, 1) := by decide +kernel
theorem dX6_breachesOf_4 : decode cX6_breachesOf 4 = .ok (.iload_n 3, 1) := by decide +kernel
theorem dX6_breachesOf_5 : decode cX6_breachesOf 5 = .ok (.iconst 5, 1) := by decide +kernel
theorem dX6_breachesOf_6 : decode cX6_breachesOf 6 = .ok (.if_icmp .ge 24, 3) := by decide +kernel
theorem dX6_breachesOf_9 : decode cX6_breachesOf 9 = .ok (.iload_n 2, 1) := by decide +kernel
theorem dX6_breachesOf_10 : decode cX6_breachesOf 10 = .ok (.aload_n 0, 1) := by decide +kernel
theorem dX6_breachesOf_11 : decode cX6_breachesOf 11 = .ok (.getfield 12, 3) := by decide +kernel
theorem dX6_breachesOf_14 : decode cX6_breachesOf 14 = .ok (.bipush 9, 2) := by decide +kernel
theorem dX6_breachesOf_16 : decode cX6_breachesOf 16 = .ok (.iload_n 3, 1) := by decide +kernel
theorem dX6_breachesOf_17 : decode cX6_breachesOf 17 = .ok (.iadd, 1) := by decide +kernel
theorem dX6_breachesOf_18 : decode cX6_breachesOf 18 = .ok (.iload_n 1, 1) := by decide +kernel
theorem dX6_breachesOf_19 : decode cX6_breachesOf 19 = .ok (.invokevirtual 118, 3) := by decide +kernel
theorem dX6_breachesOf_22 : decode cX6_breachesOf 22 = .ok (.iadd, 1) := by decide +kernel
theorem dX6_breachesOf_23 : decode cX6_breachesOf 23 = .ok (.istore_n 2, 1) := by decide +kernel
theorem dX6_breachesOf_24 : decode cX6_breachesOf 24 = .ok (.iinc 3 1, 3) := by decide +kernel
theorem dX6_breachesOf_27 : decode cX6_breachesOf 27 = .ok (.goto (-23), 3) := by decide +kernel
theorem dX6_breachesOf_30 : decode cX6_breachesOf 30 = .ok (.iload_n 2, 1) := by decide +kernel
theorem dX6_breachesOf_31 : decode cX6_breachesOf 31 = .ok (.ireturn, 1) := by decide +kernel
theorem dX6_placeInLine_0 : decode cX6_placeInLine 0 = .ok (.aload_n 0, 1) := by decide +kernel
theorem dX6_placeInLine_1 : decode cX6_placeInLine 1 = .ok (.getfield 12, 3) := by decide +kernel
theorem dX6_placeInLine_4 : decode cX6_placeInLine 4 = .ok (.iconst 0, 1) := by decide +kernel
theorem dX6_placeInLine_5 : decode cX6_placeInLine 5 = .ok (.iload_n 1, 1) := by decide +kernel
theorem dX6_placeInLine_6 : decode cX6_placeInLine 6 = .ok (.invokevirtual 121, 3) := by decide +kernel
theorem dX6_placeInLine_9 : decode cX6_placeInLine 9 = .ok (.ifCond .ne 6, 3) := by decide +kernel
theorem dX6_placeInLine_12 : decode cX6_placeInLine 12 = .ok (.bipush (-15), 2) := by decide +kernel
theorem dX6_placeInLine_14 : decode cX6_placeInLine 14 = .ok (.ireturn, 1) := by decide +kernel
theorem dX6_placeInLine_15 : decode cX6_placeInLine 15 = .ok (.iconst 0, 1) := by decide +kernel
theorem dX6_placeInLine_16 : decode cX6_placeInLine 16 = .ok (.istore_n 2, 1) := by decide +kernel
theorem dX6_placeInLine_17 : decode cX6_placeInLine 17 = .ok (.iconst 0, 1) := by decide +kernel
theorem dX6_placeInLine_18 : decode cX6_placeInLine 18 = .ok (.istore_n 3, 1) := by decide +kernel
theorem dX6_placeInLine_19 : decode cX6_placeInLine 19 = .ok (.iload_n 3, 1) := by decide +kernel
theorem dX6_placeInLine_20 : decode cX6_placeInLine 20 = .ok (.iload_n 1, 1) := by decide +kernel
theorem dX6_placeInLine_21 : decode cX6_placeInLine 21 = .ok (.if_icmp .ge 30, 3) := by decide +kernel
theorem dX6_placeInLine_24 : decode cX6_placeInLine 24 = .ok (.iload_n 3, 1) := by decide +kernel
theorem dX6_placeInLine_25 : decode cX6_placeInLine 25 = .ok (.bipush 16, 2) := by decide +kernel
theorem dX6_placeInLine_27 : decode cX6_placeInLine 27 = .ok (.if_icmp .ge 24, 3) := by decide +kernel
theorem dX6_placeInLine_30 : decode cX6_placeInLine 30 = .ok (.aload_n 0, 1) := by decide +kernel
theorem dX6_placeInLine_31 : decode cX6_placeInLine 31 = .ok (.getfield 12, 3) := by decide +kernel
theorem dX6_placeInLine_34 : decode cX6_placeInLine 34 = .ok (.iconst 0, 1) := by decide +kernel
theorem dX6_placeInLine_35 : decode cX6_placeInLine 35 = .ok (.iload_n 3, 1) := by decide +kernel
theorem dX6_placeInLine_36 : decode cX6_placeInLine 36 = .ok (.invokevirtual 121, 3) := by decide +kernel
theorem dX6_placeInLine_39 : decode cX6_placeInLine 39 = .ok (.ifCond .eq 6, 3) := by decide +kernel
theorem dX6_placeInLine_42 : decode cX6_placeInLine 42 = .ok (.iinc 2 1, 3) := by decide +kernel
theorem dX6_placeInLine_45 : decode cX6_placeInLine 45 = .ok (.iinc 3 1, 3) := by decide +kernel
theorem dX6_placeInLine_48 : decode cX6_placeInLine 48 = .ok (.goto (-29), 3) := by decide +kernel
theorem dX6_placeInLine_51 : decode cX6_placeInLine 51 = .ok (.iload_n 2, 1) := by decide +kernel
theorem dX6_placeInLine_52 : decode cX6_placeInLine 52 = .ok (.ireturn, 1) := by decide +kernel
theorem dX6_tallyVoices_0 : decode cX6_tallyVoices 0 = .ok (.iconst 0, 1) := by decide +kernel
theorem dX6_tallyVoices_1 : decode cX6_tallyVoices 1 = .ok (.istore_n 1, 1) := by decide +kernel
theorem dX6_tallyVoices_2 : decode cX6_tallyVoices 2 = .ok (.iload_n 1, 1) := by decide +kernel
theorem dX6_tallyVoices_3 : decode cX6_tallyVoices 3 = .ok (.aload_n 0, 1) := by decide +kernel
theorem dX6_tallyVoices_4 : decode cX6_tallyVoices 4 = .ok (.getfield 59, 3) := by decide +kernel
theorem dX6_tallyVoices_7 : decode cX6_tallyVoices 7 = .ok (.arraylength, 1) := by decide +kernel
theorem dX6_tallyVoices_8 : decode cX6_tallyVoices 8 = .ok (.if_icmp .ge 16, 3) := by decide +kernel
theorem dX6_tallyVoices_11 : decode cX6_tallyVoices 11 = .ok (.aload_n 0, 1) := by decide +kernel
theorem dX6_tallyVoices_12 : decode cX6_tallyVoices 12 = .ok (.getfield 59, 3) := by decide +kernel
theorem dX6_tallyVoices_15 : decode cX6_tallyVoices 15 = .ok (.iload_n 1, 1) := by decide +kernel
theorem dX6_tallyVoices_16 : decode cX6_tallyVoices 16 = .ok (.iconst 0, 1) := by decide +kernel
theorem dX6_tallyVoices_17 : decode cX6_tallyVoices 17 = .ok (.iastore, 1) := by decide +kernel
theorem dX6_tallyVoices_18 : decode cX6_tallyVoices 18 = .ok (.iinc 1 1, 3) := by decide +kernel
theorem dX6_tallyVoices_21 : decode cX6_tallyVoices 21 = .ok (.goto (-19), 3) := by decide +kernel
theorem dX6_tallyVoices_24 : decode cX6_tallyVoices 24 = .ok (.iconst 0, 1) := by decide +kernel
theorem dX6_tallyVoices_25 : decode cX6_tallyVoices 25 = .ok (.istore_n 1, 1) := by decide +kernel
theorem dX6_tallyVoices_26 : decode cX6_tallyVoices 26 = .ok (.iload_n 1, 1) := by decide +kernel
theorem dX6_tallyVoices_27 : decode cX6_tallyVoices 27 = .ok (.bipush 8, 2) := by decide +kernel
theorem dX6_tallyVoices_29 : decode cX6_tallyVoices 29 = .ok (.if_icmp .ge 89, 3) := by decide +kernel
theorem dX6_tallyVoices_32 : decode cX6_tallyVoices 32 = .ok (.aload_n 0, 1) := by decide +kernel
theorem dX6_tallyVoices_33 : decode cX6_tallyVoices 33 = .ok (.getfield 12, 3) := by decide +kernel
theorem dX6_tallyVoices_36 : decode cX6_tallyVoices 36 = .ok (.sipush 224, 3) := by decide +kernel
theorem dX6_tallyVoices_39 : decode cX6_tallyVoices 39 = .ok (.iload_n 1, 1) := by decide +kernel
theorem dX6_tallyVoices_40 : decode cX6_tallyVoices 40 = .ok (.iadd, 1) := by decide +kernel
theorem dX6_tallyVoices_41 : decode cX6_tallyVoices 41 = .ok (.invokevirtual 137, 3) := by decide +kernel
theorem dX6_tallyVoices_44 : decode cX6_tallyVoices 44 = .ok (.istore_n 2, 1) := by decide +kernel
theorem dX6_tallyVoices_45 : decode cX6_tallyVoices 45 = .ok (.aload_n 0, 1) := by decide +kernel
theorem dX6_tallyVoices_46 : decode cX6_tallyVoices 46 = .ok (.getfield 12, 3) := by decide +kernel
theorem dX6_tallyVoices_49 : decode cX6_tallyVoices 49 = .ok (.iload_n 2, 1) := by decide +kernel
theorem dX6_tallyVoices_50 : decode cX6_tallyVoices 50 = .ok (.invokevirtual 114, 3) := by decide +kernel
theorem dX6_tallyVoices_53 : decode cX6_tallyVoices 53 = .ok (.ifCond .eq 16, 3) := by decide +kernel
theorem dX6_tallyVoices_56 : decode cX6_tallyVoices 56 = .ok (.aload_n 0, 1) := by decide +kernel
theorem dX6_tallyVoices_57 : decode cX6_tallyVoices 57 = .ok (.getfield 12, 3) := by decide +kernel
theorem dX6_tallyVoices_60 : decode cX6_tallyVoices 60 = .ok (.bipush 7, 2) := by decide +kernel
theorem dX6_tallyVoices_62 : decode cX6_tallyVoices 62 = .ok (.iload_n 2, 1) := by decide +kernel
theorem dX6_tallyVoices_63 : decode cX6_tallyVoices 63 = .ok (.invokevirtual 118, 3) := by decide +kernel
theorem dX6_tallyVoices_66 : decode cX6_tallyVoices 66 = .ok (.goto 5, 3) := by decide +kernel
theorem dX6_tallyVoices_69 : decode cX6_tallyVoices 69 = .ok (.bipush (-15), 2) := by decide +kernel
theorem dX6_tallyVoices_71 : decode cX6_tallyVoices 71 = .ok (.istore_n 3, 1) := by decide +kernel
theorem dX6_tallyVoices_72 : decode cX6_tallyVoices 72 = .ok (.iload_n 3, 1) := by decide +kernel
theorem dX6_tallyVoices_73 : decode cX6_tallyVoices 73 = .ok (.ifCond .lt 39, 3) := by decide +kernel
theorem dX6_tallyVoices_76 : decode cX6_tallyVoices 76 = .ok (.iload_n 3, 1) := by decide +kernel
theorem dX6_tallyVoices_77 : decode cX6_tallyVoices 77 = .ok (.aload_n 0, 1) := by decide +kernel
theorem dX6_tallyVoices_78 : decode cX6_tallyVoices 78 = .ok (.getfield 59, 3) := by decide +kernel
theorem dX6_tallyVoices_81 : decode cX6_tallyVoices 81 = .ok (.arraylength, 1) := by decide +kernel
theorem dX6_tallyVoices_82 : decode cX6_tallyVoices 82 = .ok (.if_icmp .ge 30, 3) := by decide +kernel
theorem dX6_tallyVoices_85 : decode cX6_tallyVoices 85 = .ok (.aload_n 0, 1) := by decide +kernel
theorem dX6_tallyVoices_86 : decode cX6_tallyVoices 86 = .ok (.getfield 59, 3) := by decide +kernel
theorem dX6_tallyVoices_89 : decode cX6_tallyVoices 89 = .ok (.iload_n 3, 1) := by decide +kernel
theorem dX6_tallyVoices_90 : decode cX6_tallyVoices 90 = .ok (.dup2, 1) := by decide +kernel
theorem dX6_tallyVoices_91 : decode cX6_tallyVoices 91 = .ok (.iaload, 1) := by decide +kernel
theorem dX6_tallyVoices_92 : decode cX6_tallyVoices 92 = .ok (.aload_n 0, 1) := by decide +kernel
theorem dX6_tallyVoices_93 : decode cX6_tallyVoices 93 = .ok (.getfield 12, 3) := by decide +kernel
theorem dX6_tallyVoices_96 : decode cX6_tallyVoices 96 = .ok (.iconst 1, 1) := by decide +kernel
theorem dX6_tallyVoices_97 : decode cX6_tallyVoices 97 = .ok (.iload_n 3, 1) := by decide +kernel
theorem dX6_tallyVoices_98 : decode cX6_tallyVoices 98 = .ok (.invokevirtual 118, 3) := by decide +kernel
theorem dX6_tallyVoices_101 : decode cX6_tallyVoices 101 = .ok (.iconst 1, 1) := by decide +kernel
theorem dX6_tallyVoices_102 : decode cX6_tallyVoices 102 = .ok (.if_icmp .ne 7, 3) := by decide +kernel
theorem dX6_tallyVoices_105 : decode cX6_tallyVoices 105 = .ok (.iconst 2, 1) := by decide +kernel
theorem dX6_tallyVoices_106 : decode cX6_tallyVoices 106 = .ok (.goto 4, 3) := by decide +kernel
theorem dX6_tallyVoices_109 : decode cX6_tallyVoices 109 = .ok (.iconst 1, 1) := by decide +kernel
theorem dX6_tallyVoices_110 : decode cX6_tallyVoices 110 = .ok (.iadd, 1) := by decide +kernel
theorem dX6_tallyVoices_111 : decode cX6_tallyVoices 111 = .ok (.iastore, 1) := by decide +kernel
theorem dX6_tallyVoices_112 : decode cX6_tallyVoices 112 = .ok (.iinc 1 1, 3) := by decide +kernel
theorem dX6_tallyVoices_115 : decode cX6_tallyVoices 115 = .ok (.goto (-89), 3) := by decide +kernel
theorem dX6_tallyVoices_118 : decode cX6_tallyVoices 118 = .ok (.return_, 1) := by decide +kernel
theorem dX6_brethrenUnderBan_0 : decode cX6_brethrenUnderBan 0 = .ok (.iconst 0, 1) := by decide +kernel
theorem dX6_brethrenUnderBan_1 : decode cX6_brethrenUnderBan 1 = .ok (.istore_n 1, 1) := by decide +kernel
theorem dX6_brethrenUnderBan_2 : decode cX6_brethrenUnderBan 2 = .ok (.iconst 0, 1) := by decide +kernel
theorem dX6_brethrenUnderBan_3 : decode cX6_brethrenUnderBan 3 = .ok (.istore_n 2, 1) := by decide +kernel
theorem dX6_brethrenUnderBan_4 : decode cX6_brethrenUnderBan 4 = .ok (.iload_n 2, 1) := by decide +kernel
theorem dX6_brethrenUnderBan_5 : decode cX6_brethrenUnderBan 5 = .ok (.bipush 16, 2) := by decide +kernel
theorem dX6_brethrenUnderBan_7 : decode cX6_brethrenUnderBan 7 = .ok (.if_icmp .ge 24, 3) := by decide +kernel
theorem dX6_brethrenUnderBan_10 : decode cX6_brethrenUnderBan 10 = .ok (.aload_n 0, 1) := by decide +kernel
theorem dX6_brethrenUnderBan_11 : decode cX6_brethrenUnderBan 11 = .ok (.getfield 12, 3) := by decide +kernel
theorem dX6_brethrenUnderBan_14 : decode cX6_brethrenUnderBan 14 = .ok (.iconst 5, 1) := by decide +kernel
theorem dX6_brethrenUnderBan_15 : decode cX6_brethrenUnderBan 15 = .ok (.iload_n 2, 1) := by decide +kernel
theorem dX6_brethrenUnderBan_16 : decode cX6_brethrenUnderBan 16 = .ok (.invokevirtual 118, 3) := by decide +kernel
theorem dX6_brethrenUnderBan_19 : decode cX6_brethrenUnderBan 19 = .ok (.ifCond .le 6, 3) := by decide +kernel
theorem dX6_brethrenUnderBan_22 : decode cX6_brethrenUnderBan 22 = .ok (.iinc 1 1, 3) := by decide +kernel
theorem dX6_brethrenUnderBan_25 : decode cX6_brethrenUnderBan 25 = .ok (.iinc 2 1, 3) := by decide +kernel
theorem dX6_brethrenUnderBan_28 : decode cX6_brethrenUnderBan 28 = .ok (.goto (-24), 3) := by decide +kernel
theorem dX6_brethrenUnderBan_31 : decode cX6_brethrenUnderBan 31 = .ok (.iload_n 1, 1) := by decide +kernel
theorem dX6_brethrenUnderBan_32 : decode cX6_brethrenUnderBan 32 = .ok (.ireturn, 1) := by decide +kernel
theorem dX6_cellsWith_0 : decode cX6_cellsWith 0 = .ok (.iconst 0, 1) := by decide +kernel
theorem dX6_cellsWith_1 : decode cX6_cellsWith 1 = .ok (.istore_n 2, 1) := by decide +kernel
theorem dX6_cellsWith_2 : decode cX6_cellsWith 2 = .ok (.iconst 0, 1) := by decide +kernel
theorem dX6_cellsWith_3 : decode cX6_cellsWith 3 = .ok (.istore_n 3, 1) := by decide +kernel
theorem dX6_cellsWith_4 : decode cX6_cellsWith 4 = .ok (.iload_n 3, 1) := by decide +kernel
theorem dX6_cellsWith_5 : decode cX6_cellsWith 5 = .ok (.bipush 8, 2) := by decide +kernel
theorem dX6_cellsWith_7 : decode cX6_cellsWith 7 = .ok (.if_icmp .ge 28, 3) := by decide +kernel
theorem dX6_cellsWith_10 : decode cX6_cellsWith 10 = .ok (.aload_n 0, 1) := by decide +kernel
theorem dX6_cellsWith_11 : decode cX6_cellsWith 11 = .ok (.getfield 12, 3) := by decide +kernel
theorem dX6_cellsWith_14 : decode cX6_cellsWith 14 = .ok (.sipush 224, 3) := by decide +kernel
theorem dX6_cellsWith_17 : decode cX6_cellsWith 17 = .ok (.iload_n 3, 1) := by decide +kernel
theorem dX6_cellsWith_18 : decode cX6_cellsWith 18 = .ok (.iadd, 1) := by decide +kernel
theorem dX6_cellsWith_19 : decode cX6_cellsWith 19 = .ok (.invokevirtual 137, 3) := by decide +kernel
theorem dX6_cellsWith_22 : decode cX6_cellsWith 22 = .ok (.iload_n 1, 1) := by decide +kernel
theorem dX6_cellsWith_23 : decode cX6_cellsWith 23 = .ok (.if_icmp .ne 6, 3) := by decide +kernel
theorem dX6_cellsWith_26 : decode cX6_cellsWith 26 = .ok (.iinc 2 1, 3) := by decide +kernel
theorem dX6_cellsWith_29 : decode cX6_cellsWith 29 = .ok (.iinc 3 1, 3) := by decide +kernel
theorem dX6_cellsWith_32 : decode cX6_cellsWith 32 = .ok (.goto (-28), 3) := by decide +kernel
theorem dX6_cellsWith_35 : decode cX6_cellsWith 35 = .ok (.iload_n 2, 1) := by decide +kernel
theorem dX6_cellsWith_36 : decode cX6_cellsWith 36 = .ok (.ireturn, 1) := by decide +kernel
theorem dX6_addCell_0 : decode cX6_addCell 0 = .ok (.aload_n 0, 1) := by decide +kernel
theorem dX6_addCell_1 : decode cX6_addCell 1 = .ok (.getfield 12, 3) := by decide +kernel
theorem dX6_addCell_4 : decode cX6_addCell 4 = .ok (.iload_n 1, 1) := by decide +kernel
theorem dX6_addCell_5 : decode cX6_addCell 5 = .ok (.invokevirtual 114, 3) := by decide +kernel
theorem dX6_addCell_8 : decode cX6_addCell 8 = .ok (.ifCond .ne 13, 3) := by decide +kernel
theorem dX6_addCell_11 : decode cX6_addCell 11 = .ok (.aload_n 0, 1) := by decide +kernel
theorem dX6_addCell_12 : decode cX6_addCell 12 = .ok (.getfield 56, 3) := by decide +kernel
theorem dX6_addCell_15 : decode cX6_addCell 15 = .ok (.bipush 45, 2) := by decide +kernel
theorem dX6_addCell_17 : decode cX6_addCell 17 = .ok (.invokevirtual 170, 3) := by decide +kernel
theorem dX6_addCell_20 : decode cX6_addCell 20 = .ok (.return_, 1) := by decide +kernel
theorem dX6_addCell_21 : decode cX6_addCell 21 = .ok (.aload_n 0, 1) := by decide +kernel
theorem dX6_addCell_22 : decode cX6_addCell 22 = .ok (.getfield 56, 3) := by decide +kernel
theorem dX6_addCell_25 : decode cX6_addCell 25 = .ok (.iload_n 1, 1) := by decide +kernel
theorem dX6_addCell_26 : decode cX6_addCell 26 = .ok (.invokevirtual 249, 3) := by decide +kernel
theorem dX6_addCell_29 : decode cX6_addCell 29 = .ok (.aload_n 0, 1) := by decide +kernel
theorem dX6_addCell_30 : decode cX6_addCell 30 = .ok (.getfield 12, 3) := by decide +kernel
theorem dX6_addCell_33 : decode cX6_addCell 33 = .ok (.iconst 5, 1) := by decide +kernel
theorem dX6_addCell_34 : decode cX6_addCell 34 = .ok (.iload_n 1, 1) := by decide +kernel
theorem dX6_addCell_35 : decode cX6_addCell 35 = .ok (.invokevirtual 118, 3) := by decide +kernel
theorem dX6_addCell_38 : decode cX6_addCell 38 = .ok (.ifCond .le 12, 3) := by decide +kernel
theorem dX6_addCell_41 : decode cX6_addCell 41 = .ok (.aload_n 0, 1) := by decide +kernel
theorem dX6_addCell_42 : decode cX6_addCell 42 = .ok (.getfield 56, 3) := by decide +kernel
theorem dX6_addCell_45 : decode cX6_addCell 45 = .ok (.bipush 33, 2) := by decide +kernel
theorem dX6_addCell_47 : decode cX6_addCell 47 = .ok (.invokevirtual 170, 3) := by decide +kernel
theorem dX6_addCell_50 : decode cX6_addCell 50 = .ok (.aload_n 0, 1) := by decide +kernel
theorem dX6_addCell_51 : decode cX6_addCell 51 = .ok (.getfield 12, 3) := by decide +kernel
theorem dX6_addCell_54 : decode cX6_addCell 54 = .ok (.iconst 4, 1) := by decide +kernel
theorem dX6_addCell_55 : decode cX6_addCell 55 = .ok (.iload_n 1, 1) := by decide +kernel
theorem dX6_addCell_56 : decode cX6_addCell 56 = .ok (.invokevirtual 118, 3) := by decide +kernel
theorem dX6_addCell_59 : decode cX6_addCell 59 = .ok (.iconst 2, 1) := by decide +kernel
theorem dX6_addCell_60 : decode cX6_addCell 60 = .ok (.if_icmp .lt 12, 3) := by decide +kernel
theorem dX6_addCell_63 : decode cX6_addCell 63 = .ok (.aload_n 0, 1) := by decide +kernel
theorem dX6_addCell_64 : decode cX6_addCell 64 = .ok (.getfield 56, 3) := by decide +kernel
theorem dX6_addCell_67 : decode cX6_addCell 67 = .ok (.bipush 42, 2) := by decide +kernel
theorem dX6_addCell_69 : decode cX6_addCell 69 = .ok (.invokevirtual 170, 3) := by decide +kernel
theorem dX6_addCell_72 : decode cX6_addCell 72 = .ok (.return_, 1) := by decide +kernel
theorem dX6_addWaiting_0 : decode cX6_addWaiting 0 = .ok (.aload_n 0, 1) := by decide +kernel
theorem dX6_addWaiting_1 : decode cX6_addWaiting 1 = .ok (.getfield 56, 3) := by decide +kernel
theorem dX6_addWaiting_4 : decode cX6_addWaiting 4 = .ok (.invokevirtual 166, 3) := by decide +kernel
theorem dX6_addWaiting_7 : decode cX6_addWaiting 7 = .ok (.ifCond .le 12, 3) := by decide +kernel
theorem dX6_addWaiting_10 : decode cX6_addWaiting 10 = .ok (.aload_n 0, 1) := by decide +kernel
theorem dX6_addWaiting_11 : decode cX6_addWaiting 11 = .ok (.getfield 56, 3) := by decide +kernel
theorem dX6_addWaiting_14 : decode cX6_addWaiting 14 = .ok (.bipush 44, 2) := by decide +kernel
theorem dX6_addWaiting_16 : decode cX6_addWaiting 16 = .ok (.invokevirtual 170, 3) := by decide +kernel
theorem dX6_addWaiting_19 : decode cX6_addWaiting 19 = .ok (.aload_n 0, 1) := by decide +kernel
theorem dX6_addWaiting_20 : decode cX6_addWaiting 20 = .ok (.getfield 56, 3) := by decide +kernel
theorem dX6_addWaiting_23 : decode cX6_addWaiting 23 = .ok (.iload_n 1, 1) := by decide +kernel
theorem dX6_addWaiting_24 : decode cX6_addWaiting 24 = .ok (.invokevirtual 249, 3) := by decide +kernel
theorem dX6_addWaiting_27 : decode cX6_addWaiting 27 = .ok (.aload_n 0, 1) := by decide +kernel
theorem dX6_addWaiting_28 : decode cX6_addWaiting 28 = .ok (.getfield 12, 3) := by decide +kernel
theorem dX6_addWaiting_31 : decode cX6_addWaiting 31 = .ok (.iconst 1, 1) := by decide +kernel
theorem dX6_addWaiting_32 : decode cX6_addWaiting 32 = .ok (.iload_n 1, 1) := by decide +kernel
theorem dX6_addWaiting_33 : decode cX6_addWaiting 33 = .ok (.invokevirtual 118, 3) := by decide +kernel
theorem dX6_addWaiting_36 : decode cX6_addWaiting 36 = .ok (.iconst 1, 1) := by decide +kernel
theorem dX6_addWaiting_37 : decode cX6_addWaiting 37 = .ok (.if_icmp .ne 12, 3) := by decide +kernel
theorem dX6_addWaiting_40 : decode cX6_addWaiting 40 = .ok (.aload_n 0, 1) := by decide +kernel
theorem dX6_addWaiting_41 : decode cX6_addWaiting 41 = .ok (.getfield 56, 3) := by decide +kernel
theorem dX6_addWaiting_44 : decode cX6_addWaiting 44 = .ok (.bipush 107, 2) := by decide +kernel
theorem dX6_addWaiting_46 : decode cX6_addWaiting 46 = .ok (.invokevirtual 170, 3) := by decide +kernel
theorem dX6_addWaiting_49 : decode cX6_addWaiting 49 = .ok (.aload_n 0, 1) := by decide +kernel
theorem dX6_addWaiting_50 : decode cX6_addWaiting 50 = .ok (.getfield 56, 3) := by decide +kernel
theorem dX6_addWaiting_53 : decode cX6_addWaiting 53 = .ok (.bipush 58, 2) := by decide +kernel
theorem dX6_addWaiting_55 : decode cX6_addWaiting 55 = .ok (.invokevirtual 170, 3) := by decide +kernel
theorem dX6_addWaiting_58 : decode cX6_addWaiting 58 = .ok (.aload_n 0, 1) := by decide +kernel
theorem dX6_addWaiting_59 : decode cX6_addWaiting 59 = .ok (.getfield 56, 3) := by decide +kernel
theorem dX6_addWaiting_62 : decode cX6_addWaiting 62 = .ok (.aload_n 0, 1) := by decide +kernel
theorem dX6_addWaiting_63 : decode cX6_addWaiting 63 = .ok (.getfield 12, 3) := by decide +kernel
theorem dX6_addWaiting_66 : decode cX6_addWaiting 66 = .ok (.iload_n 1, 1) := by decide +kernel
theorem dX6_addWaiting_67 : decode cX6_addWaiting 67 = .ok (.invokevirtual 143, 3) := by decide +kernel
theorem dX6_addWaiting_70 : decode cX6_addWaiting 70 = .ok (.invokevirtual 249, 3) := by decide +kernel
theorem dX6_addWaiting_73 : decode cX6_addWaiting 73 = .ok (.return_, 1) := by decide +kernel
theorem dJ9_max_7cf53_0 : decode cJ9_max_7cf53 0 = .ok (.iload_n 0, 1) := by decide +kernel
theorem dJ9_max_7cf53_1 : decode cJ9_max_7cf53 1 = .ok (.iload_n 1, 1) := by decide +kernel
theorem dJ9_max_7cf53_2 : decode cJ9_max_7cf53 2 = .ok (.if_icmp .lt 7, 3) := by decide +kernel
theorem dJ9_max_7cf53_5 : decode cJ9_max_7cf53 5 = .ok (.iload_n 0, 1) := by decide +kernel
theorem dJ9_max_7cf53_6 : decode cJ9_max_7cf53 6 = .ok (.goto 4, 3) := by decide +kernel
theorem dJ9_max_7cf53_9 : decode cJ9_max_7cf53 9 = .ok (.iload_n 1, 1) := by decide +kernel
theorem dJ9_max_7cf53_10 : decode cJ9_max_7cf53 10 = .ok (.ireturn, 1) := by decide +kernel
theorem dJ9_min_7cf53_0 : decode cJ9_min_7cf53 0 = .ok (.iload_n 0, 1) := by decide +kernel
theorem dJ9_min_7cf53_1 : decode cJ9_min_7cf53 1 = .ok (.iload_n 1, 1) := by decide +kernel
theorem dJ9_min_7cf53_2 : decode cJ9_min_7cf53 2 = .ok (.if_icmp .gt 7, 3) := by decide +kernel
theorem dJ9_min_7cf53_5 : decode cJ9_min_7cf53 5 = .ok (.iload_n 0, 1) := by decide +kernel
theorem dJ9_min_7cf53_6 : decode cJ9_min_7cf53 6 = .ok (.goto 4, 3) := by decide +kernel
theorem dJ9_min_7cf53_9 : decode cJ9_min_7cf53 9 = .ok (.iload_n 1, 1) := by decide +kernel
theorem dJ9_min_7cf53_10 : decode cJ9_min_7cf53 10 = .ok (.ireturn, 1) := by decide +kernel
theorem dJ0_length_8abf5_0 : decode cJ0_length_8abf5 0 = .ok (.aload_n 0, 1) := by decide +kernel
theorem dJ0_length_8abf5_1 : decode cJ0_length_8abf5 1 = .ok (.getfield 9, 3) := by decide +kernel
theorem dJ0_length_8abf5_4 : decode cJ0_length_8abf5 4 = .ok (.arraylength, 1) := by decide +kernel
theorem dJ0_length_8abf5_5 : decode cJ0_length_8abf5 5 = .ok (.aload_n 0, 1) := by decide +kernel
theorem dJ0_length_8abf5_6 : decode cJ0_length_8abf5 6 = .ok (.invokevirtual 335, 3) := by decide +kernel
theorem dJ0_length_8abf5_9 : decode cJ0_length_8abf5 9 = .ok (.ishr, 1) := by decide +kernel
theorem dJ0_length_8abf5_10 : decode cJ0_length_8abf5 10 = .ok (.ireturn, 1) := by decide +kernel
theorem dJ0_charAt_5068e_0 : decode cJ0_charAt_5068e 0 = .ok (.aload_n 0, 1) := by decide +kernel
theorem dJ0_charAt_5068e_1 : decode cJ0_charAt_5068e 1 = .ok (.invokevirtual 492, 3) := by decide +kernel
theorem dJ0_charAt_5068e_4 : decode cJ0_charAt_5068e 4 = .ok (.ifCond .eq 12, 3) := by decide +kernel
theorem dJ0_charAt_5068e_7 : decode cJ0_charAt_5068e 7 = .ok (.aload_n 0, 1) := by decide +kernel
theorem dJ0_charAt_5068e_8 : decode cJ0_charAt_5068e 8 = .ok (.getfield 9, 3) := by decide +kernel
theorem dJ0_charAt_5068e_11 : decode cJ0_charAt_5068e 11 = .ok (.iload_n 1, 1) := by decide +kernel
theorem dJ0_charAt_5068e_12 : decode cJ0_charAt_5068e 12 = .ok (.invokestatic 495, 3) := by decide +kernel
theorem dJ0_charAt_5068e_15 : decode cJ0_charAt_5068e 15 = .ok (.ireturn, 1) := by decide +kernel
theorem dJ0_charAt_5068e_16 : decode cJ0_charAt_5068e 16 = .ok (.aload_n 0, 1) := by decide +kernel
theorem dJ0_charAt_5068e_17 : decode cJ0_charAt_5068e 17 = .ok (.getfield 9, 3) := by decide +kernel
theorem dJ0_charAt_5068e_20 : decode cJ0_charAt_5068e 20 = .ok (.iload_n 1, 1) := by decide +kernel
theorem dJ0_charAt_5068e_21 : decode cJ0_charAt_5068e 21 = .ok (.invokestatic 498, 3) := by decide +kernel
theorem dJ0_charAt_5068e_24 : decode cJ0_charAt_5068e 24 = .ok (.ireturn, 1) := by decide +kernel
theorem dJ0_coder_7d493_0 : decode cJ0_coder_7d493 0 = .ok (.getstatic 38, 3) := by decide +kernel
theorem dJ0_coder_7d493_3 : decode cJ0_coder_7d493 3 = .ok (.ifCond .eq 10, 3) := by decide +kernel
theorem dJ0_coder_7d493_6 : decode cJ0_coder_7d493 6 = .ok (.aload_n 0, 1) := by decide +kernel
theorem dJ0_coder_7d493_7 : decode cJ0_coder_7d493 7 = .ok (.getfield 15, 3) := by decide +kernel
theorem dJ0_coder_7d493_10 : decode cJ0_coder_7d493 10 = .ok (.goto 4, 3) := by decide +kernel
theorem dJ0_coder_7d493_13 : decode cJ0_coder_7d493 13 = .ok (.iconst 1, 1) := by decide +kernel
theorem dJ0_coder_7d493_14 : decode cJ0_coder_7d493 14 = .ok (.ireturn, 1) := by decide +kernel
theorem dJ0_isLatin1_aae02_0 : decode cJ0_isLatin1_aae02 0 = .ok (.getstatic 38, 3) := by decide +kernel
theorem dJ0_isLatin1_aae02_3 : decode cJ0_isLatin1_aae02 3 = .ok (.ifCond .eq 14, 3) := by decide +kernel
theorem dJ0_isLatin1_aae02_6 : decode cJ0_isLatin1_aae02 6 = .ok (.aload_n 0, 1) := by decide +kernel
theorem dJ0_isLatin1_aae02_7 : decode cJ0_isLatin1_aae02 7 = .ok (.getfield 15, 3) := by decide +kernel
theorem dJ0_isLatin1_aae02_10 : decode cJ0_isLatin1_aae02 10 = .ok (.ifCond .ne 7, 3) := by decide +kernel
theorem dJ0_isLatin1_aae02_13 : decode cJ0_isLatin1_aae02 13 = .ok (.iconst 1, 1) := by decide +kernel
theorem dJ0_isLatin1_aae02_14 : decode cJ0_isLatin1_aae02 14 = .ok (.goto 4, 3) := by decide +kernel
theorem dJ0_isLatin1_aae02_17 : decode cJ0_isLatin1_aae02 17 = .ok (.iconst 0, 1) := by decide +kernel
theorem dJ0_isLatin1_aae02_18 : decode cJ0_isLatin1_aae02 18 = .ok (.ireturn, 1) := by decide +kernel
theorem dJ0_checkIndex_df160_0 : decode cJ0_checkIndex_df160 0 = .ok (.iload_n 0, 1) := by decide +kernel
theorem dJ0_checkIndex_df160_1 : decode cJ0_checkIndex_df160 1 = .ok (.iload_n 1, 1) := by decide +kernel
theorem dJ0_checkIndex_df160_2 : decode cJ0_checkIndex_df160 2 = .ok (.getstatic 1053, 3) := by decide +kernel
theorem dJ0_checkIndex_df160_5 : decode cJ0_checkIndex_df160 5 = .ok (.invokestatic 1059, 3) := by decide +kernel
theorem dJ0_checkIndex_df160_8 : decode cJ0_checkIndex_df160 8 = .ok (.pop, 1) := by decide +kernel
theorem dJ0_checkIndex_df160_9 : decode cJ0_checkIndex_df160 9 = .ok (.return_, 1) := by decide +kernel
theorem dJ1_charAt_3b067_0 : decode cJ1_charAt_3b067 0 = .ok (.iload_n 1, 1) := by decide +kernel
theorem dJ1_charAt_3b067_1 : decode cJ1_charAt_3b067 1 = .ok (.aload_n 0, 1) := by decide +kernel
theorem dJ1_charAt_3b067_2 : decode cJ1_charAt_3b067 2 = .ok (.arraylength, 1) := by decide +kernel
theorem dJ1_charAt_3b067_3 : decode cJ1_charAt_3b067 3 = .ok (.invokestatic 9, 3) := by decide +kernel
theorem dJ1_charAt_3b067_6 : decode cJ1_charAt_3b067 6 = .ok (.aload_n 0, 1) := by decide +kernel
theorem dJ1_charAt_3b067_7 : decode cJ1_charAt_3b067 7 = .ok (.iload_n 1, 1) := by decide +kernel
theorem dJ1_charAt_3b067_8 : decode cJ1_charAt_3b067 8 = .ok (.baload, 1) := by decide +kernel
theorem dJ1_charAt_3b067_9 : decode cJ1_charAt_3b067 9 = .ok (.sipush 255, 3) := by decide +kernel
theorem dJ1_charAt_3b067_12 : decode cJ1_charAt_3b067 12 = .ok (.iand, 1) := by decide +kernel
theorem dJ1_charAt_3b067_13 : decode cJ1_charAt_3b067 13 = .ok (.i2c, 1) := by decide +kernel
theorem dJ1_charAt_3b067_14 : decode cJ1_charAt_3b067 14 = .ok (.ireturn, 1) := by decide +kernel
theorem dJ2_getChar_3b067_0 : decode cJ2_getChar_3b067 0 = .ok (.getstatic 44, 3) := by decide +kernel
theorem dJ2_getChar_3b067_3 : decode cJ2_getChar_3b067 3 = .ok (.ifCond .ne 25, 3) := by decide +kernel
theorem dJ2_getChar_3b067_6 : decode cJ2_getChar_3b067 6 = .ok (.iload_n 1, 1) := by decide +kernel
theorem dJ2_getChar_3b067_7 : decode cJ2_getChar_3b067 7 = .ok (.ifCond .lt 11, 3) := by decide +kernel
theorem dJ2_getChar_3b067_10 : decode cJ2_getChar_3b067 10 = .ok (.iload_n 1, 1) := by decide +kernel
theorem dJ2_getChar_3b067_11 : decode cJ2_getChar_3b067 11 = .ok (.aload_n 0, 1) := by decide +kernel
theorem dJ2_getChar_3b067_12 : decode cJ2_getChar_3b067 12 = .ok (.invokestatic 48, 3) := by decide +kernel
theorem dJ2_getChar_3b067_15 : decode cJ2_getChar_3b067 15 = .ok (.if_icmp .lt 13, 3) := by decide +kernel
theorem dJ2_getChar_3b067_18 : decode cJ2_getChar_3b067 18 = .ok (.new 52, 3) := by decide +kernel
theorem dJ2_getChar_3b067_21 : decode cJ2_getChar_3b067 21 = .ok (.dup, 1) := by decide +kernel
theorem dJ2_getChar_3b067_22 : decode cJ2_getChar_3b067 22 = .ok (.ldc 54, 2) := by decide +kernel
theorem dJ2_getChar_3b067_24 : decode cJ2_getChar_3b067 24 = .ok (.invokespecial 56, 3) := by decide +kernel
theorem dJ2_getChar_3b067_27 : decode cJ2_getChar_3b067 27 = .ok (.athrow, 1) := by decide +kernel
theorem dJ2_getChar_3b067_28 : decode cJ2_getChar_3b067 28 = .ok (.iload_n 1, 1) := by decide +kernel
theorem dJ2_getChar_3b067_29 : decode cJ2_getChar_3b067 29 = .ok (.iconst 1, 1) := by decide +kernel
theorem dJ2_getChar_3b067_30 : decode cJ2_getChar_3b067 30 = .ok (.ishl, 1) := by decide +kernel
theorem dJ2_getChar_3b067_31 : decode cJ2_getChar_3b067 31 = .ok (.istore_n 1, 1) := by decide +kernel
theorem dJ2_getChar_3b067_32 : decode cJ2_getChar_3b067 32 = .ok (.aload_n 0, 1) := by decide +kernel
theorem dJ2_getChar_3b067_33 : decode cJ2_getChar_3b067 33 = .ok (.iload_n 1, 1) := by decide +kernel
theorem dJ2_getChar_3b067_34 : decode cJ2_getChar_3b067 34 = .ok (.iinc 1 1, 3) := by decide +kernel
theorem dJ2_getChar_3b067_37 : decode cJ2_getChar_3b067 37 = .ok (.baload, 1) := by decide +kernel
theorem dJ2_getChar_3b067_38 : decode cJ2_getChar_3b067 38 = .ok (.sipush 255, 3) := by decide +kernel
theorem dJ2_getChar_3b067_41 : decode cJ2_getChar_3b067 41 = .ok (.iand, 1) := by decide +kernel
theorem dJ2_getChar_3b067_42 : decode cJ2_getChar_3b067 42 = .ok (.getstatic 59, 3) := by decide +kernel
theorem dJ2_getChar_3b067_45 : decode cJ2_getChar_3b067 45 = .ok (.ishl, 1) := by decide +kernel
theorem dJ2_getChar_3b067_46 : decode cJ2_getChar_3b067 46 = .ok (.aload_n 0, 1) := by decide +kernel
theorem dJ2_getChar_3b067_47 : decode cJ2_getChar_3b067 47 = .ok (.iload_n 1, 1) := by decide +kernel
theorem dJ2_getChar_3b067_48 : decode cJ2_getChar_3b067 48 = .ok (.baload, 1) := by decide +kernel
theorem dJ2_getChar_3b067_49 : decode cJ2_getChar_3b067 49 = .ok (.sipush 255, 3) := by decide +kernel
theorem dJ2_getChar_3b067_52 : decode cJ2_getChar_3b067 52 = .ok (.iand, 1) := by decide +kernel
theorem dJ2_getChar_3b067_53 : decode cJ2_getChar_3b067 53 = .ok (.getstatic 63, 3) := by decide +kernel
theorem dJ2_getChar_3b067_56 : decode cJ2_getChar_3b067 56 = .ok (.ishl, 1) := by decide +kernel
theorem dJ2_getChar_3b067_57 : decode cJ2_getChar_3b067 57 = .ok (.ior, 1) := by decide +kernel
theorem dJ2_getChar_3b067_58 : decode cJ2_getChar_3b067 58 = .ok (.i2c, 1) := by decide +kernel
theorem dJ2_getChar_3b067_59 : decode cJ2_getChar_3b067 59 = .ok (.ireturn, 1) := by decide +kernel
theorem dJ2_length_9d52b_0 : decode cJ2_length_9d52b 0 = .ok (.aload_n 0, 1) := by decide +kernel
theorem dJ2_length_9d52b_1 : decode cJ2_length_9d52b 1 = .ok (.arraylength, 1) := by decide +kernel
theorem dJ2_length_9d52b_2 : decode cJ2_length_9d52b 2 = .ok (.iconst 1, 1) := by decide +kernel
theorem dJ2_length_9d52b_3 : decode cJ2_length_9d52b 3 = .ok (.ishr, 1) := by decide +kernel
theorem dJ2_length_9d52b_4 : decode cJ2_length_9d52b 4 = .ok (.ireturn, 1) := by decide +kernel
theorem dJ2_charAt_3b067_0 : decode cJ2_charAt_3b067 0 = .ok (.iload_n 1, 1) := by decide +kernel
theorem dJ2_charAt_3b067_1 : decode cJ2_charAt_3b067 1 = .ok (.aload_n 0, 1) := by decide +kernel
theorem dJ2_charAt_3b067_2 : decode cJ2_charAt_3b067 2 = .ok (.invokestatic 67, 3) := by decide +kernel
theorem dJ2_charAt_3b067_5 : decode cJ2_charAt_3b067 5 = .ok (.aload_n 0, 1) := by decide +kernel
theorem dJ2_charAt_3b067_6 : decode cJ2_charAt_3b067 6 = .ok (.iload_n 1, 1) := by decide +kernel
theorem dJ2_charAt_3b067_7 : decode cJ2_charAt_3b067 7 = .ok (.invokestatic 71, 3) := by decide +kernel
theorem dJ2_charAt_3b067_10 : decode cJ2_charAt_3b067 10 = .ok (.ireturn, 1) := by decide +kernel
theorem dJ2_checkIndex_2214a_0 : decode cJ2_checkIndex_2214a 0 = .ok (.iload_n 0, 1) := by decide +kernel
theorem dJ2_checkIndex_2214a_1 : decode cJ2_checkIndex_2214a 1 = .ok (.aload_n 1, 1) := by decide +kernel
theorem dJ2_checkIndex_2214a_2 : decode cJ2_checkIndex_2214a 2 = .ok (.invokestatic 48, 3) := by decide +kernel
theorem dJ2_checkIndex_2214a_5 : decode cJ2_checkIndex_2214a 5 = .ok (.invokestatic 414, 3) := by decide +kernel
theorem dJ2_checkIndex_2214a_8 : decode cJ2_checkIndex_2214a 8 = .ok (.return_, 1) := by decide +kernel
theorem dJ3_checkIndex_8e157_0 : decode cJ3_checkIndex_8e157 0 = .ok (.iload_n 0, 1) := by decide +kernel
theorem dJ3_checkIndex_8e157_1 : decode cJ3_checkIndex_8e157 1 = .ok (.ifCond .lt 8, 3) := by decide +kernel
theorem dJ3_checkIndex_8e157_4 : decode cJ3_checkIndex_8e157 4 = .ok (.iload_n 0, 1) := by decide +kernel
theorem dJ3_checkIndex_8e157_5 : decode cJ3_checkIndex_8e157 5 = .ok (.iload_n 1, 1) := by decide +kernel
theorem dJ3_checkIndex_8e157_6 : decode cJ3_checkIndex_8e157 6 = .ok (.if_icmp .lt 10, 3) := by decide +kernel
theorem dJ3_checkIndex_8e157_9 : decode cJ3_checkIndex_8e157 9 = .ok (.aload_n 2, 1) := by decide +kernel
theorem dJ3_checkIndex_8e157_10 : decode cJ3_checkIndex_8e157 10 = .ok (.iload_n 0, 1) := by decide +kernel
theorem dJ3_checkIndex_8e157_11 : decode cJ3_checkIndex_8e157 11 = .ok (.iload_n 1, 1) := by decide +kernel
theorem dJ3_checkIndex_8e157_12 : decode cJ3_checkIndex_8e157 12 = .ok (.invokestatic 95, 3) := by decide +kernel
theorem dJ3_checkIndex_8e157_15 : decode cJ3_checkIndex_8e157 15 = .ok (.athrow, 1) := by decide +kernel
theorem dJ3_checkIndex_8e157_16 : decode cJ3_checkIndex_8e157 16 = .ok (.iload_n 0, 1) := by decide +kernel
theorem dJ3_checkIndex_8e157_17 : decode cJ3_checkIndex_8e157 17 = .ok (.ireturn, 1) := by decide +kernel
end
section
theorem dX7_init_0 : decode cX7_init 0 = .ok (.aload_n 0, 1) := by decide +kernel
theorem dX7_init_1 : decode cX7_init 1 = .ok (.invokespecial 1, 3) := by decide +kernel
theorem dX7_init_4 : decode cX7_init 4 = .ok (.aload_n 0, 1) := by decide +kernel
theorem dX7_init_5 : decode cX7_init 5 = .ok (.sipush 320, 3) := by decide +kernel
theorem dX7_init_8 : decode cX7_init 8 = .ok (.newarray .int, 2) := by decide +kernel
theorem dX7_init_10 : decode cX7_init 10 = .ok (.putfield 7, 3) := by decide +kernel
theorem dX7_init_13 : decode cX7_init 13 = .ok (.aload_n 0, 1) := by decide +kernel
theorem dX7_init_14 : decode cX7_init 14 = .ok (.sipush 2560, 3) := by decide +kernel
theorem dX7_init_17 : decode cX7_init 17 = .ok (.newarray .int, 2) := by decide +kernel
theorem dX7_init_19 : decode cX7_init 19 = .ok (.putfield 13, 3) := by decide +kernel
theorem dX7_init_22 : decode cX7_init 22 = .ok (.aload_n 0, 1) := by decide +kernel
theorem dX7_init_23 : decode cX7_init 23 = .ok (.sipush 320, 3) := by decide +kernel
theorem dX7_init_26 : decode cX7_init 26 = .ok (.newarray .int, 2) := by decide +kernel
theorem dX7_init_28 : decode cX7_init 28 = .ok (.putfield 16, 3) := by decide +kernel
theorem dX7_init_31 : decode cX7_init 31 = .ok (.aload_n 0, 1) := by decide +kernel
theorem dX7_init_32 : decode cX7_init 32 = .ok (.sipush 320, 3) := by decide +kernel
theorem dX7_init_35 : decode cX7_init 35 = .ok (.newarray .int, 2) := by decide +kernel
theorem dX7_init_37 : decode cX7_init 37 = .ok (.putfield 19, 3) := by decide +kernel
theorem dX7_init_40 : decode cX7_init 40 = .ok (.aload_n 0, 1) := by decide +kernel
theorem dX7_init_41 : decode cX7_init 41 = .ok (.bipush 16, 2) := by decide +kernel
theorem dX7_init_43 : decode cX7_init 43 = .ok (.newarray .int, 2) := by decide +kernel
theorem dX7_init_45 : decode cX7_init 45 = .ok (.putfield 22, 3) := by decide +kernel
theorem dX7_init_48 : decode cX7_init 48 = .ok (.aload_n 0, 1) := by decide +kernel
theorem dX7_init_49 : decode cX7_init 49 = .ok (.bipush 60, 2) := by decide +kernel
theorem dX7_init_51 : decode cX7_init 51 = .ok (.newarray .char, 2) := by decide +kernel
theorem dX7_init_53 : decode cX7_init 53 = .ok (.putfield 25, 3) := by decide +kernel
theorem dX7_init_56 : decode cX7_init 56 = .ok (.aload_n 0, 1) := by decide +kernel
theorem dX7_init_57 : decode cX7_init 57 = .ok (.iconst 2, 1) := by decide +kernel
theorem dX7_init_58 : decode cX7_init 58 = .ok (.newarray .int, 2) := by decide +kernel
theorem dX7_init_60 : decode cX7_init 60 = .ok (.putfield 29, 3) := by decide +kernel
theorem dX7_init_63 : decode cX7_init 63 = .ok (.aload_n 0, 1) := by decide +kernel
theorem dX7_init_64 : decode cX7_init 64 = .ok (.sipush 160, 3) := by decide +kernel
theorem dX7_init_67 : decode cX7_init 67 = .ok (.newarray .char, 2) := by decide +kernel
theorem dX7_init_69 : decode cX7_init 69 = .ok (.putfield 32, 3) := by decide +kernel
theorem dX7_init_72 : decode cX7_init 72 = .ok (.aload_n 0, 1) := by decide +kernel
theorem dX7_init_73 : decode cX7_init 73 = .ok (.getfield 7, 3) := by decide +kernel
theorem dX7_init_76 : decode cX7_init 76 = .ok (.iconst 3, 1) := by decide +kernel
theorem dX7_init_77 : decode cX7_init 77 = .ok (.bipush 100, 2) := by decide +kernel
theorem dX7_init_79 : decode cX7_init 79 = .ok (.iastore, 1) := by decide +kernel
theorem dX7_init_80 : decode cX7_init 80 = .ok (.return_, 1) := by decide +kernel
theorem dX7_isBetween_0 : decode cX7_isBetween 0 = .ok (.iload_n 1, 1) := by decide +kernel
theorem dX7_isBetween_1 : decode cX7_isBetween 1 = .ok (.iload_n 0, 1) := by decide +kernel
theorem dX7_isBetween_2 : decode cX7_isBetween 2 = .ok (.if_icmp .gt 12, 3) := by decide +kernel
theorem dX7_isBetween_5 : decode cX7_isBetween 5 = .ok (.iload_n 0, 1) := by decide +kernel
theorem dX7_isBetween_6 : decode cX7_isBetween 6 = .ok (.iload_n 2, 1) := by decide +kernel
theorem dX7_isBetween_7 : decode cX7_isBetween 7 = .ok (.if_icmp .gt 7, 3) := by decide +kernel
theorem dX7_isBetween_10 : decode cX7_isBetween 10 = .ok (.iconst 1, 1) := by decide +kernel
theorem dX7_isBetween_11 : decode cX7_isBetween 11 = .ok (.goto 4, 3) := by decide +kernel
theorem dX7_isBetween_14 : decode cX7_isBetween 14 = .ok (.iconst 0, 1) := by decide +kernel
theorem dX7_isBetween_15 : decode cX7_isBetween 15 = .ok (.ireturn, 1) := by decide +kernel
theorem dX7_lesser_0 : decode cX7_lesser 0 = .ok (.iload_n 0, 1) := by decide +kernel
theorem dX7_lesser_1 : decode cX7_lesser 1 = .ok (.iload_n 1, 1) := by decide +kernel
theorem dX7_lesser_2 : decode cX7_lesser 2 = .ok (.if_icmp .ge 7, 3) := by decide +kernel
theorem dX7_lesser_5 : decode cX7_lesser 5 = .ok (.iload_n 0, 1) := by decide +kernel
theorem dX7_lesser_6 : decode cX7_lesser 6 = .ok (.goto 4, 3) := by decide +kernel
theorem dX7_lesser_9 : decode cX7_lesser 9 = .ok (.iload_n 1, 1) := by decide +kernel
theorem dX7_lesser_10 : decode cX7_lesser 10 = .ok (.ireturn, 1) := by decide +kernel
theorem dX7_isNot_0 : decode cX7_isNot 0 = .ok (.aload_n 0, 1) := by decide +kernel
theorem dX7_isNot_1 : decode cX7_isNot 1 = .ok (.iload_n 1, 1) := by decide +kernel
theorem dX7_isNot_2 : decode cX7_isNot 2 = .ok (.putfield 35, 3) := by decide +kernel
theorem dX7_isNot_5 : decode cX7_isNot 5 = .ok (.aload_n 0, 1) := by decide +kernel
theorem dX7_isNot_6 : decode cX7_isNot 6 = .ok (.iload_n 2, 1) := by decide +kernel
theorem dX7_isNot_7 : decode cX7_isNot 7 = .ok (.putfield 39, 3) := by decide +kernel
theorem dX7_isNot_10 : decode cX7_isNot 10 = .ok (.bipush (-14), 2) := by decide +kernel
theorem dX7_isNot_12 : decode cX7_isNot 12 = .ok (.ireturn, 1) := by decide +kernel
theorem dX7_refuses_0 : decode cX7_refuses 0 = .ok (.iload_n 1, 1) := by decide +kernel
theorem dX7_refuses_1 : decode cX7_refuses 1 = .ok (.bipush (-14), 2) := by decide +kernel
theorem dX7_refuses_3 : decode cX7_refuses 3 = .ok (.if_icmp .ne 19, 3) := by decide +kernel
theorem dX7_refuses_6 : decode cX7_refuses 6 = .ok (.aload_n 0, 1) := by decide +kernel
theorem dX7_refuses_7 : decode cX7_refuses 7 = .ok (.aload_n 0, 1) := by decide +kernel
theorem dX7_refuses_8 : decode cX7_refuses 8 = .ok (.getfield 35, 3) := by decide +kernel
theorem dX7_refuses_11 : decode cX7_refuses 11 = .ok (.putfield 42, 3) := by decide +kernel
theorem dX7_refuses_14 : decode cX7_refuses 14 = .ok (.aload_n 0, 1) := by decide +kernel
theorem dX7_refuses_15 : decode cX7_refuses 15 = .ok (.aload_n 0, 1) := by decide +kernel
theorem dX7_refuses_16 : decode cX7_refuses 16 = .ok (.getfield 39, 3) := by decide +kernel
theorem dX7_refuses_19 : decode cX7_refuses 19 = .ok (.putfield 45, 3) := by decide +kernel
theorem dX7_refuses_22 : decode cX7_refuses 22 = .ok (.iload_n 1, 1) := by decide +kernel
theorem dX7_refuses_23 : decode cX7_refuses 23 = .ok (.ireturn, 1) := by decide +kernel
theorem dX7_reason_0 : decode cX7_reason 0 = .ok (.aload_n 0, 1) := by decide +kernel
theorem dX7_reason_1 : decode cX7_reason 1 = .ok (.getfield 42, 3) := by decide +kernel
theorem dX7_reason_4 : decode cX7_reason 4 = .ok (.ifCond .ne 8, 3) := by decide +kernel
theorem dX7_reason_7 : decode cX7_reason 7 = .ok (.bipush (-15), 2) := by decide +kernel
theorem dX7_reason_9 : decode cX7_reason 9 = .ok (.goto 18, 3) := by decide +kernel
theorem dX7_reason_12 : decode cX7_reason 12 = .ok (.iload_n 1, 1) := by decide +kernel
theorem dX7_reason_13 : decode cX7_reason 13 = .ok (.ifCond .eq 10, 3) := by decide +kernel
theorem dX7_reason_16 : decode cX7_reason 16 = .ok (.aload_n 0, 1) := by decide +kernel
theorem dX7_reason_17 : decode cX7_reason 17 = .ok (.getfield 45, 3) := by decide +kernel
theorem dX7_reason_20 : decode cX7_reason 20 = .ok (.goto 7, 3) := by decide +kernel
theorem dX7_reason_23 : decode cX7_reason 23 = .ok (.aload_n 0, 1) := by decide +kernel
theorem dX7_reason_24 : decode cX7_reason 24 = .ok (.getfield 42, 3) := by decide +kernel
theorem dX7_reason_27 : decode cX7_reason 27 = .ok (.ireturn, 1) := by decide +kernel
theorem dX7_thinks_0 : decode cX7_thinks 0 = .ok (.iconst 0, 1) := by decide +kernel
theorem dX7_thinks_1 : decode cX7_thinks 1 = .ok (.istore_n 1, 1) := by decide +kernel
theorem dX7_thinks_2 : decode cX7_thinks 2 = .ok (.iload_n 1, 1) := by decide +kernel
theorem dX7_thinks_3 : decode cX7_thinks 3 = .ok (.sipush 320, 3) := by decide +kernel
theorem dX7_thinks_6 : decode cX7_thinks 6 = .ok (.if_icmp .ge 21, 3) := by decide +kernel
theorem dX7_thinks_9 : decode cX7_thinks 9 = .ok (.aload_n 0, 1) := by decide +kernel
theorem dX7_thinks_10 : decode cX7_thinks 10 = .ok (.getfield 19, 3) := by decide +kernel
theorem dX7_thinks_13 : decode cX7_thinks 13 = .ok (.iload_n 1, 1) := by decide +kernel
theorem dX7_thinks_14 : decode cX7_thinks 14 = .ok (.aload_n 0, 1) := by decide +kernel
theorem dX7_thinks_15 : decode cX7_thinks 15 = .ok (.getfield 7, 3) := by decide +kernel
theorem dX7_thinks_18 : decode cX7_thinks 18 = .ok (.iload_n 1, 1) := by decide +kernel
theorem dX7_thinks_19 : decode cX7_thinks 19 = .ok (.iaload, 1) := by decide +kernel
theorem dX7_thinks_20 : decode cX7_thinks 20 = .ok (.iastore, 1) := by decide +kernel
theorem dX7_thinks_21 : decode cX7_thinks 21 = .ok (.iinc 1 1, 3) := by decide +kernel
theorem dX7_thinks_24 : decode cX7_thinks 24 = .ok (.goto (-22), 3) := by decide +kernel
theorem dX7_thinks_27 : decode cX7_thinks 27 = .ok (.return_, 1) := by decide +kernel
theorem dX7_forgets_0 : decode cX7_forgets 0 = .ok (.iconst 0, 1) := by decide +kernel
theorem dX7_forgets_1 : decode cX7_forgets 1 = .ok (.istore_n 1, 1) := by decide +kernel
theorem dX7_forgets_2 : decode cX7_forgets 2 = .ok (.iload_n 1, 1) := by decide +kernel
theorem dX7_forgets_3 : decode cX7_forgets 3 = .ok (.sipush 320, 3) := by decide +kernel
theorem dX7_forgets_6 : decode cX7_forgets 6 = .ok (.if_icmp .ge 21, 3) := by decide +kernel
theorem dX7_forgets_9 : decode cX7_forgets 9 = .ok (.aload_n 0, 1) := by decide +kernel
theorem dX7_forgets_10 : decode cX7_forgets 10 = .ok (.getfield 7, 3) := by decide +kernel
theorem dX7_forgets_13 : decode cX7_forgets 13 = .ok (.iload_n 1, 1) := by decide +kernel
theorem dX7_forgets_14 : decode cX7_forgets 14 = .ok (.aload_n 0, 1) := by decide +kernel
theorem dX7_forgets_15 : decode cX7_forgets 15 = .ok (.getfield 19, 3) := by decide +kernel
theorem dX7_forgets_18 : decode cX7_forgets 18 = .ok (.iload_n 1, 1) := by decide +kernel
theorem dX7_forgets_19 : decode cX7_forgets 19 = .ok (.iaload, 1) := by decide +kernel
theorem dX7_forgets_20 : decode cX7_forgets 20 = .ok (.iastore, 1) := by decide +kernel
theorem dX7_forgets_21 : decode cX7_forgets 21 = .ok (.iinc 1 1, 3) := by decide +kernel
theorem dX7_forgets_24 : decode cX7_forgets 24 = .ok (.goto (-22), 3) := by decide +kernel
theorem dX7_forgets_27 : decode cX7_forgets 27 = .ok (.return_, 1) := by decide +kernel
theorem dX7_keepsMind_0 : decode cX7_keepsMind 0 = .ok (.aload_n 0, 1) := by decide +kernel
theorem dX7_keepsMind_1 : decode cX7_keepsMind 1 = .ok (.getfield 48, 3) := by decide +kernel
theorem dX7_keepsMind_4 : decode cX7_keepsMind 4 = .ok (.bipush 8, 2) := by decide +kernel
theorem dX7_keepsMind_6 : decode cX7_keepsMind 6 = .ok (.if_icmp .ne 26, 3) := by decide +kernel
theorem dX7_keepsMind_9 : decode cX7_keepsMind 9 = .ok (.aload_n 0, 1) := by decide +kernel
theorem dX7_keepsMind_10 : decode cX7_keepsMind 10 = .ok (.aload_n 0, 1) := by decide +kernel
theorem dX7_keepsMind_11 : decode cX7_keepsMind 11 = .ok (.getfield 51, 3) := by decide +kernel
theorem dX7_keepsMind_14 : decode cX7_keepsMind 14 = .ok (.iconst 1, 1) := by decide +kernel
theorem dX7_keepsMind_15 : decode cX7_keepsMind 15 = .ok (.iadd, 1) := by decide +kernel
theorem dX7_keepsMind_16 : decode cX7_keepsMind 16 = .ok (.bipush 8, 2) := by decide +kernel
theorem dX7_keepsMind_18 : decode cX7_keepsMind 18 = .ok (.irem, 1) := by decide +kernel
theorem dX7_keepsMind_19 : decode cX7_keepsMind 19 = .ok (.putfield 51, 3) := by decide +kernel
theorem dX7_keepsMind_22 : decode cX7_keepsMind 22 = .ok (.aload_n 0, 1) := by decide +kernel
theorem dX7_keepsMind_23 : decode cX7_keepsMind 23 = .ok (.dup, 1) := by decide +kernel
theorem dX7_keepsMind_24 : decode cX7_keepsMind 24 = .ok (.getfield 48, 3) := by decide +kernel
theorem dX7_keepsMind_27 : decode cX7_keepsMind 27 = .ok (.iconst 1, 1) := by decide +kernel
theorem dX7_keepsMind_28 : decode cX7_keepsMind 28 = .ok (.isub, 1) := by decide +kernel
theorem dX7_keepsMind_29 : decode cX7_keepsMind 29 = .ok (.putfield 48, 3) := by decide +kernel
theorem dX7_keepsMind_32 : decode cX7_keepsMind 32 = .ok (.aload_n 0, 1) := by decide +kernel
theorem dX7_keepsMind_33 : decode cX7_keepsMind 33 = .ok (.getfield 51, 3) := by decide +kernel
theorem dX7_keepsMind_36 : decode cX7_keepsMind 36 = .ok (.aload_n 0, 1) := by decide +kernel
theorem dX7_keepsMind_37 : decode cX7_keepsMind 37 = .ok (.getfield 48, 3) := by decide +kernel
theorem dX7_keepsMind_40 : decode cX7_keepsMind 40 = .ok (.iadd, 1) := by decide +kernel
theorem dX7_keepsMind_41 : decode cX7_keepsMind 41 = .ok (.bipush 8, 2) := by decide +kernel
theorem dX7_keepsMind_43 : decode cX7_keepsMind 43 = .ok (.irem, 1) := by decide +kernel
theorem dX7_keepsMind_44 : decode cX7_keepsMind 44 = .ok (.istore_n 1, 1) := by decide +kernel
theorem dX7_keepsMind_45 : decode cX7_keepsMind 45 = .ok (.iconst 0, 1) := by decide +kernel
theorem dX7_keepsMind_46 : decode cX7_keepsMind 46 = .ok (.istore_n 2, 1) := by decide +kernel
theorem dX7_keepsMind_47 : decode cX7_keepsMind 47 = .ok (.iload_n 2, 1) := by decide +kernel
theorem dX7_keepsMind_48 : decode cX7_keepsMind 48 = .ok (.sipush 320, 3) := by decide +kernel
theorem dX7_keepsMind_51 : decode cX7_keepsMind 51 = .ok (.if_icmp .ge 27, 3) := by decide +kernel
theorem dX7_keepsMind_54 : decode cX7_keepsMind 54 = .ok (.aload_n 0, 1) := by decide +kernel
theorem dX7_keepsMind_55 : decode cX7_keepsMind 55 = .ok (.getfield 13, 3) := by decide +kernel
theorem dX7_keepsMind_58 : decode cX7_keepsMind 58 = .ok (.sipush 320, 3) := by decide +kernel
theorem dX7_keepsMind_61 : decode cX7_keepsMind 61 = .ok (.iload_n 1, 1) := by decide +kernel
theorem dX7_keepsMind_62 : decode cX7_keepsMind 62 = .ok (.imul, 1) := by decide +kernel
theorem dX7_keepsMind_63 : decode cX7_keepsMind 63 = .ok (.iload_n 2, 1) := by decide +kernel
theorem dX7_keepsMind_64 : decode cX7_keepsMind 64 = .ok (.iadd, 1) := by decide +kernel
theorem dX7_keepsMind_65 : decode cX7_keepsMind 65 = .ok (.aload_n 0, 1) := by decide +kernel
theorem dX7_keepsMind_66 : decode cX7_keepsMind 66 = .ok (.getfield 19, 3) := by decide +kernel
theorem dX7_keepsMind_69 : decode cX7_keepsMind 69 = .ok (.iload_n 2, 1) := by decide +kernel
theorem dX7_keepsMind_70 : decode cX7_keepsMind 70 = .ok (.iaload, 1) := by decide +kernel
theorem dX7_keepsMind_71 : decode cX7_keepsMind 71 = .ok (.iastore, 1) := by decide +kernel
theorem dX7_keepsMind_72 : decode cX7_keepsMind 72 = .ok (.iinc 2 1, 3) := by decide +kernel
theorem dX7_keepsMind_75 : decode cX7_keepsMind 75 = .ok (.goto (-28), 3) := by decide +kernel
theorem dX7_keepsMind_78 : decode cX7_keepsMind 78 = .ok (.aload_n 0, 1) := by decide +kernel
theorem dX7_keepsMind_79 : decode cX7_keepsMind 79 = .ok (.dup, 1) := by decide +kernel
theorem dX7_keepsMind_80 : decode cX7_keepsMind 80 = .ok (.getfield 48, 3) := by decide +kernel
theorem dX7_keepsMind_83 : decode cX7_keepsMind 83 = .ok (.iconst 1, 1) := by decide +kernel
theorem dX7_keepsMind_84 : decode cX7_keepsMind 84 = .ok (.iadd, 1) := by decide +kernel
theorem dX7_keepsMind_85 : decode cX7_keepsMind 85 = .ok (.putfield 48, 3) := by decide +kernel
theorem dX7_keepsMind_88 : decode cX7_keepsMind 88 = .ok (.return_, 1) := by decide +kernel
theorem dX7_remembers_0 : decode cX7_remembers 0 = .ok (.aload_n 0, 1) := by decide +kernel
theorem dX7_remembers_1 : decode cX7_remembers 1 = .ok (.invokevirtual 54, 3) := by decide +kernel
theorem dX7_remembers_4 : decode cX7_remembers 4 = .ok (.aload_n 0, 1) := by decide +kernel
theorem dX7_remembers_5 : decode cX7_remembers 5 = .ok (.invokevirtual 57, 3) := by decide +kernel
theorem dX7_remembers_8 : decode cX7_remembers 8 = .ok (.return_, 1) := by decide +kernel
theorem dX7_of_0 : decode cX7_of 0 = .ok (.aload_n 0, 1) := by decide +kernel
theorem dX7_of_1 : decode cX7_of 1 = .ok (.getfield 7, 3) := by decide +kernel
theorem dX7_of_4 : decode cX7_of 4 = .ok (.bipush 64, 2) := by decide +kernel
theorem dX7_of_6 : decode cX7_of 6 = .ok (.bipush 16, 2) := by decide +kernel
theorem dX7_of_8 : decode cX7_of 8 = .ok (.iload_n 1, 1) := by decide +kernel
theorem dX7_of_9 : decode cX7_of 9 = .ok (.imul, 1) := by decide +kernel
theorem dX7_of_10 : decode cX7_of 10 = .ok (.iadd, 1) := by decide +kernel
theorem dX7_of_11 : decode cX7_of 11 = .ok (.iload_n 2, 1) := by decide +kernel
theorem dX7_of_12 : decode cX7_of 12 = .ok (.iadd, 1) := by decide +kernel
theorem dX7_of_13 : decode cX7_of 13 = .ok (.iaload, 1) := by decide +kernel
theorem dX7_of_14 : decode cX7_of 14 = .ok (.ireturn, 1) := by decide +kernel
theorem dX7_sets_0 : decode cX7_sets 0 = .ok (.aload_n 0, 1) := by decide +kernel
theorem dX7_sets_1 : decode cX7_sets 1 = .ok (.getfield 7, 3) := by decide +kernel
theorem dX7_sets_4 : decode cX7_sets 4 = .ok (.bipush 64, 2) := by decide +kernel
theorem dX7_sets_6 : decode cX7_sets 6 = .ok (.bipush 16, 2) := by decide +kernel
theorem dX7_sets_8 : decode cX7_sets 8 = .ok (.iload_n 1, 1) := by decide +kernel
theorem dX7_sets_9 : decode cX7_sets 9 = .ok (.imul, 1) := by decide +kernel
theorem dX7_sets_10 : decode cX7_sets 10 = .ok (.iadd, 1) := by decide +kernel
theorem dX7_sets_11 : decode cX7_sets 11 = .ok (.iload_n 2, 1) := by decide +kernel
theorem dX7_sets_12 : decode cX7_sets 12 = .ok (.iadd, 1) := by decide +kernel
theorem dX7_sets_13 : decode cX7_sets 13 = .ok (.iload_n 3, 1) := by decide +kernel
theorem dX7_sets_14 : decode cX7_sets 14 = .ok (.iastore, 1) := by decide +kernel
theorem dX7_sets_15 : decode cX7_sets 15 = .ok (.return_, 1) := by decide +kernel
theorem dX7_isBrother_0 : decode cX7_isBrother 0 = .ok (.iload_n 1, 1) := by decide +kernel
theorem dX7_isBrother_1 : decode cX7_isBrother 1 = .ok (.iconst 0, 1) := by decide +kernel
theorem dX7_isBrother_2 : decode cX7_isBrother 2 = .ok (.aload_n 0, 1) := by decide +kernel
theorem dX7_isBrother_3 : decode cX7_isBrother 3 = .ok (.getfield 7, 3) := by decide +kernel
theorem dX7_isBrother_6 : decode cX7_isBrother 6 = .ok (.iconst 2, 1) := by decide +kernel
theorem dX7_isBrother_7 : decode cX7_isBrother 7 = .ok (.iaload, 1) := by decide +kernel
theorem dX7_isBrother_8 : decode cX7_isBrother 8 = .ok (.iconst 1, 1) := by decide +kernel
theorem dX7_isBrother_9 : decode cX7_isBrother 9 = .ok (.isub, 1) := by decide +kernel
theorem dX7_isBrother_10 : decode cX7_isBrother 10 = .ok (.invokestatic 60, 3) := by decide +kernel
theorem dX7_isBrother_13 : decode cX7_isBrother 13 = .ok (.ireturn, 1) := by decide +kernel
theorem dX7_isCell_0 : decode cX7_isCell 0 = .ok (.iload_n 0, 1) := by decide +kernel
theorem dX7_isCell_1 : decode cX7_isCell 1 = .ok (.iconst 0, 1) := by decide +kernel
theorem dX7_isCell_2 : decode cX7_isCell 2 = .ok (.bipush 7, 2) := by decide +kernel
theorem dX7_isCell_4 : decode cX7_isCell 4 = .ok (.invokestatic 60, 3) := by decide +kernel
theorem dX7_isCell_7 : decode cX7_isCell 7 = .ok (.ireturn, 1) := by decide +kernel
theorem dX7_isSo_0 : decode cX7_isSo 0 = .ok (.aload_n 0, 1) := by decide +kernel
theorem dX7_isSo_1 : decode cX7_isSo 1 = .ok (.iload_n 1, 1) := by decide +kernel
theorem dX7_isSo_2 : decode cX7_isSo 2 = .ok (.iconst 2, 1) := by decide +kernel
theorem dX7_isSo_3 : decode cX7_isSo 3 = .ok (.invokevirtual 64, 3) := by decide +kernel
theorem dX7_isSo_6 : decode cX7_isSo 6 = .ok (.iload_n 2, 1) := by decide +kernel
theorem dX7_isSo_7 : decode cX7_isSo 7 = .ok (.if_icmp .ne 7, 3) := by decide +kernel
theorem dX7_isSo_10 : decode cX7_isSo 10 = .ok (.iconst 1, 1) := by decide +kernel
theorem dX7_isSo_11 : decode cX7_isSo 11 = .ok (.goto 4, 3) := by decide +kernel
theorem dX7_isSo_14 : decode cX7_isSo 14 = .ok (.iconst 0, 1) := by decide +kernel
theorem dX7_isSo_15 : decode cX7_isSo 15 = .ok (.ireturn, 1) := by decide +kernel
theorem dX7_brethrenThat_0 : decode cX7_brethrenThat 0 = .ok (.iconst 0, 1) := by decide +kernel
theorem dX7_brethrenThat_1 : decode cX7_brethrenThat 1 = .ok (.istore_n 2, 1) := by decide +kernel
theorem dX7_brethrenThat_2 : decode cX7_brethrenThat 2 = .ok (.iconst 0, 1) := by decide +kernel
theorem dX7_brethrenThat_3 : decode cX7_brethrenThat 3 = .ok (.istore_n 3, 1) := by decide +kernel
theorem dX7_brethrenThat_4 : decode cX7_brethrenThat 4 = .ok (.iload_n 3, 1) := by decide +kernel
theorem dX7_brethrenThat_5 : decode cX7_brethrenThat 5 = .ok (.aload_n 0, 1) := by decide +kernel
theorem dX7_brethrenThat_6 : decode cX7_brethrenThat 6 = .ok (.getfield 7, 3) := by decide +kernel
theorem dX7_brethrenThat_9 : decode cX7_brethrenThat 9 = .ok (.iconst 2, 1) := by decide +kernel
theorem dX7_brethrenThat_10 : decode cX7_brethrenThat 10 = .ok (.iaload, 1) := by decide +kernel
theorem dX7_brethrenThat_11 : decode cX7_brethrenThat 11 = .ok (.if_icmp .ge 26, 3) := by decide +kernel
theorem dX7_brethrenThat_14 : decode cX7_brethrenThat 14 = .ok (.iload_n 2, 1) := by decide +kernel
theorem dX7_brethrenThat_15 : decode cX7_brethrenThat 15 = .ok (.aload_n 0, 1) := by decide +kernel
theorem dX7_brethrenThat_16 : decode cX7_brethrenThat 16 = .ok (.iload_n 3, 1) := by decide +kernel
theorem dX7_brethrenThat_17 : decode cX7_brethrenThat 17 = .ok (.iload_n 1, 1) := by decide +kernel
theorem dX7_brethrenThat_18 : decode cX7_brethrenThat 18 = .ok (.invokevirtual 68, 3) := by decide +kernel
theorem dX7_brethrenThat_21 : decode cX7_brethrenThat 21 = .ok (.ifCond .eq 7, 3) := by decide +kernel
theorem dX7_brethrenThat_24 : decode cX7_brethrenThat 24 = .ok (.iconst 1, 1) := by decide +kernel
theorem dX7_brethrenThat_25 : decode cX7_brethrenThat 25 = .ok (.goto 4, 3) := by decide +kernel
theorem dX7_brethrenThat_28 : decode cX7_brethrenThat 28 = .ok (.iconst 0, 1) := by decide +kernel
theorem dX7_brethrenThat_29 : decode cX7_brethrenThat 29 = .ok (.iadd, 1) := by decide +kernel
theorem dX7_brethrenThat_30 : decode cX7_brethrenThat 30 = .ok (.istore_n 2, 1) := by decide +kernel
theorem dX7_brethrenThat_31 : decode cX7_brethrenThat 31 = .ok (.iinc 3 1, 3) := by decide +kernel
theorem dX7_brethrenThat_34 : decode cX7_brethrenThat 34 = .ok (.goto (-30), 3) := by decide +kernel
theorem dX7_brethrenThat_37 : decode cX7_brethrenThat 37 = .ok (.iload_n 2, 1) := by decide +kernel
theorem dX7_brethrenThat_38 : decode cX7_brethrenThat 38 = .ok (.ireturn, 1) := by decide +kernel
theorem dX7_brotherIn_0 : decode cX7_brotherIn 0 = .ok (.iconst 0, 1) := by decide +kernel
theorem dX7_brotherIn_1 : decode cX7_brotherIn 1 = .ok (.istore_n 2, 1) := by decide +kernel
theorem dX7_brotherIn_2 : decode cX7_brotherIn 2 = .ok (.iload_n 2, 1) := by decide +kernel
theorem dX7_brotherIn_3 : decode cX7_brotherIn 3 = .ok (.aload_n 0, 1) := by decide +kernel
theorem dX7_brotherIn_4 : decode cX7_brotherIn 4 = .ok (.getfield 7, 3) := by decide +kernel
theorem dX7_brotherIn_7 : decode cX7_brotherIn 7 = .ok (.iconst 2, 1) := by decide +kernel
theorem dX7_brotherIn_8 : decode cX7_brotherIn 8 = .ok (.iaload, 1) := by decide +kernel
theorem dX7_brotherIn_9 : decode cX7_brotherIn 9 = .ok (.if_icmp .ge 30, 3) := by decide +kernel
theorem dX7_brotherIn_12 : decode cX7_brotherIn 12 = .ok (.aload_n 0, 1) := by decide +kernel
theorem dX7_brotherIn_13 : decode cX7_brotherIn 13 = .ok (.iload_n 2, 1) := by decide +kernel
theorem dX7_brotherIn_14 : decode cX7_brotherIn 14 = .ok (.iconst 1, 1) := by decide +kernel
theorem dX7_brotherIn_15 : decode cX7_brotherIn 15 = .ok (.invokevirtual 68, 3) := by decide +kernel
theorem dX7_brotherIn_18 : decode cX7_brotherIn 18 = .ok (.ifCond .eq 15, 3) := by decide +kernel
theorem dX7_brotherIn_21 : decode cX7_brotherIn 21 = .ok (.aload_n 0, 1) := by decide +kernel
theorem dX7_brotherIn_22 : decode cX7_brotherIn 22 = .ok (.iload_n 2, 1) := by decide +kernel
theorem dX7_brotherIn_23 : decode cX7_brotherIn 23 = .ok (.iconst 3, 1) := by decide +kernel
theorem dX7_brotherIn_24 : decode cX7_brotherIn 24 = .ok (.invokevirtual 64, 3) := by decide +kernel
theorem dX7_brotherIn_27 : decode cX7_brotherIn 27 = .ok (.iload_n 1, 1) := by decide +kernel
theorem dX7_brotherIn_28 : decode cX7_brotherIn 28 = .ok (.if_icmp .ne 5, 3) := by decide +kernel
theorem dX7_brotherIn_31 : decode cX7_brotherIn 31 = .ok (.iload_n 2, 1) := by decide +kernel
theorem dX7_brotherIn_32 : decode cX7_brotherIn 32 = .ok (.ireturn, 1) := by decide +kernel
theorem dX7_brotherIn_33 : decode cX7_brotherIn 33 = .ok (.iinc 2 1, 3) := by decide +kernel
theorem dX7_brotherIn_36 : decode cX7_brotherIn 36 = .ok (.goto (-34), 3) := by decide +kernel
theorem dX7_brotherIn_39 : decode cX7_brotherIn 39 = .ok (.bipush (-15), 2) := by decide +kernel
theorem dX7_brotherIn_41 : decode cX7_brotherIn 41 = .ok (.ireturn, 1) := by decide +kernel
theorem dX7_countsFor_0 : decode cX7_countsFor 0 = .ok (.aload_n 0, 1) := by decide +kernel
theorem dX7_countsFor_1 : decode cX7_countsFor 1 = .ok (.iload_n 1, 1) := by decide +kernel
theorem dX7_countsFor_2 : decode cX7_countsFor 2 = .ok (.iconst 1, 1) := by decide +kernel
theorem dX7_countsFor_3 : decode cX7_countsFor 3 = .ok (.invokevirtual 64, 3) := by decide +kernel
theorem dX7_countsFor_6 : decode cX7_countsFor 6 = .ok (.iconst 1, 1) := by decide +kernel
theorem dX7_countsFor_7 : decode cX7_countsFor 7 = .ok (.if_icmp .ne 7, 3) := by decide +kernel
theorem dX7_countsFor_10 : decode cX7_countsFor 10 = .ok (.iconst 2, 1) := by decide +kernel
theorem dX7_countsFor_11 : decode cX7_countsFor 11 = .ok (.goto 4, 3) := by decide +kernel
theorem dX7_countsFor_14 : decode cX7_countsFor 14 = .ok (.iconst 1, 1) := by decide +kernel
theorem dX7_countsFor_15 : decode cX7_countsFor 15 = .ok (.ireturn, 1) := by decide +kernel
theorem dX7_voicesFor_0 : decode cX7_voicesFor 0 = .ok (.aload_n 0, 1) := by decide +kernel
theorem dX7_voicesFor_1 : decode cX7_voicesFor 1 = .ok (.iload_n 1, 1) := by decide +kernel
theorem dX7_voicesFor_2 : decode cX7_voicesFor 2 = .ok (.iconst 0, 1) := by decide +kernel
theorem dX7_voicesFor_3 : decode cX7_voicesFor 3 = .ok (.invokevirtual 68, 3) := by decide +kernel
theorem dX7_voicesFor_6 : decode cX7_voicesFor 6 = .ok (.ifCond .ne 5, 3) := by decide +kernel
theorem dX7_voicesFor_9 : decode cX7_voicesFor 9 = .ok (.iconst 0, 1) := by decide +kernel
theorem dX7_voicesFor_10 : decode cX7_voicesFor 10 = .ok (.ireturn, 1) := by decide +kernel
theorem dX7_voicesFor_11 : decode cX7_voicesFor 11 = .ok (.iconst 0, 1) := by decide +kernel
theorem dX7_voicesFor_12 : decode cX7_voicesFor 12 = .ok (.istore_n 2, 1) := by decide +kernel
theorem dX7_voicesFor_13 : decode cX7_voicesFor 13 = .ok (.iconst 0, 1) := by decide +kernel
theorem dX7_voicesFor_14 : decode cX7_voicesFor 14 = .ok (.istore_n 3, 1) := by decide +kernel
theorem dX7_voicesFor_15 : decode cX7_voicesFor 15 = .ok (.iload_n 3, 1) := by decide +kernel
theorem dX7_voicesFor_16 : decode cX7_voicesFor 16 = .ok (.aload_n 0, 1) := by decide +kernel
theorem dX7_voicesFor_17 : decode cX7_voicesFor 17 = .ok (.getfield 7, 3) := by decide +kernel
theorem dX7_voicesFor_20 : decode cX7_voicesFor 20 = .ok (.iconst 2, 1) := by decide +kernel
theorem dX7_voicesFor_21 : decode cX7_voicesFor 21 = .ok (.iaload, 1) := by decide +kernel
theorem dX7_voicesFor_22 : decode cX7_voicesFor 22 = .ok (.if_icmp .ge 34, 3) := by decide +kernel
theorem dX7_voicesFor_25 : decode cX7_voicesFor 25 = .ok (.iload_n 2, 1) := by decide +kernel
theorem dX7_voicesFor_26 : decode cX7_voicesFor 26 = .ok (.aload_n 0, 1) := by decide +kernel
theorem dX7_voicesFor_27 : decode cX7_voicesFor 27 = .ok (.iload_n 3, 1) := by decide +kernel
theorem dX7_voicesFor_28 : decode cX7_voicesFor 28 = .ok (.bipush 7, 2) := by decide +kernel
theorem dX7_voicesFor_30 : decode cX7_voicesFor 30 = .ok (.invokevirtual 64, 3) := by decide +kernel
theorem dX7_voicesFor_33 : decode cX7_voicesFor 33 = .ok (.iload_n 1, 1) := by decide +kernel
theorem dX7_voicesFor_34 : decode cX7_voicesFor 34 = .ok (.iconst 1, 1) := by decide +kernel
theorem dX7_voicesFor_35 : decode cX7_voicesFor 35 = .ok (.iadd, 1) := by decide +kernel
theorem dX7_voicesFor_36 : decode cX7_voicesFor 36 = .ok (.if_icmp .ne 11, 3) := by decide +kernel
theorem dX7_voicesFor_39 : decode cX7_voicesFor 39 = .ok (.aload_n 0, 1) := by decide +kernel
theorem dX7_voicesFor_40 : decode cX7_voicesFor 40 = .ok (.iload_n 1, 1) := by decide +kernel
theorem dX7_voicesFor_41 : decode cX7_voicesFor 41 = .ok (.invokevirtual 72, 3) := by decide +kernel
theorem dX7_voicesFor_44 : decode cX7_voicesFor 44 = .ok (.goto 4, 3) := by decide +kernel
theorem dX7_voicesFor_47 : decode cX7_voicesFor 47 = .ok (.iconst 0, 1) := by decide +kernel
theorem dX7_voicesFor_48 : decode cX7_voicesFor 48 = .ok (.iadd, 1) := by decide +kernel
theorem dX7_voicesFor_49 : decode cX7_voicesFor 49 = .ok (.istore_n 2, 1) := by decide +kernel
theorem dX7_voicesFor_50 : decode cX7_voicesFor 50 = .ok (.iinc 3 1, 3) := by decide +kernel
theorem dX7_voicesFor_53 : decode cX7_voicesFor 53 = .ok (.goto (-38), 3) := by decide +kernel
theorem dX7_voicesFor_56 : decode cX7_voicesFor 56 = .ok (.iload_n 2, 1) := by decide +kernel
theorem dX7_voicesFor_57 : decode cX7_voicesFor 57 = .ok (.ireturn, 1) := by decide +kernel
theorem dX7_voicesGo_0 : decode cX7_voicesGo 0 = .ok (.aload_n 0, 1) := by decide +kernel
theorem dX7_voicesGo_1 : decode cX7_voicesGo 1 = .ok (.iload_n 1, 1) := by decide +kernel
theorem dX7_voicesGo_2 : decode cX7_voicesGo 2 = .ok (.iconst 1, 1) := by decide +kernel
theorem dX7_voicesGo_3 : decode cX7_voicesGo 3 = .ok (.invokevirtual 68, 3) := by decide +kernel
theorem dX7_voicesGo_6 : decode cX7_voicesGo 6 = .ok (.ifCond .ne 11, 3) := by decide +kernel
theorem dX7_voicesGo_9 : decode cX7_voicesGo 9 = .ok (.aload_n 0, 1) := by decide +kernel
theorem dX7_voicesGo_10 : decode cX7_voicesGo 10 = .ok (.iload_n 1, 1) := by decide +kernel
theorem dX7_voicesGo_11 : decode cX7_voicesGo 11 = .ok (.bipush 7, 2) := by decide +kernel
theorem dX7_voicesGo_13 : decode cX7_voicesGo 13 = .ok (.iconst 0, 1) := by decide +kernel
theorem dX7_voicesGo_14 : decode cX7_voicesGo 14 = .ok (.invokevirtual 76, 3) := by decide +kernel
theorem dX7_voicesGo_17 : decode cX7_voicesGo 17 = .ok (.aload_n 0, 1) := by decide +kernel
theorem dX7_voicesGo_18 : decode cX7_voicesGo 18 = .ok (.iload_n 1, 1) := by decide +kernel
theorem dX7_voicesGo_19 : decode cX7_voicesGo 19 = .ok (.iconst 0, 1) := by decide +kernel
theorem dX7_voicesGo_20 : decode cX7_voicesGo 20 = .ok (.invokevirtual 68, 3) := by decide +kernel
theorem dX7_voicesGo_23 : decode cX7_voicesGo 23 = .ok (.ifCond .eq 4, 3) := by decide +kernel
theorem dX7_voicesGo_26 : decode cX7_voicesGo 26 = .ok (.return_, 1) := by decide +kernel
theorem dX7_voicesGo_27 : decode cX7_voicesGo 27 = .ok (.iconst 0, 1) := by decide +kernel
theorem dX7_voicesGo_28 : decode cX7_voicesGo 28 = .ok (.istore_n 2, 1) := by decide +kernel
theorem dX7_voicesGo_29 : decode cX7_voicesGo 29 = .ok (.iload_n 2, 1) := by decide +kernel
theorem dX7_voicesGo_30 : decode cX7_voicesGo 30 = .ok (.aload_n 0, 1) := by decide +kernel
theorem dX7_voicesGo_31 : decode cX7_voicesGo 31 = .ok (.getfield 7, 3) := by decide +kernel
theorem dX7_voicesGo_34 : decode cX7_voicesGo 34 = .ok (.iconst 2, 1) := by decide +kernel
theorem dX7_voicesGo_35 : decode cX7_voicesGo 35 = .ok (.iaload, 1) := by decide +kernel
theorem dX7_voicesGo_36 : decode cX7_voicesGo 36 = .ok (.if_icmp .ge 30, 3) := by decide +kernel
theorem dX7_voicesGo_39 : decode cX7_voicesGo 39 = .ok (.aload_n 0, 1) := by decide +kernel
theorem dX7_voicesGo_40 : decode cX7_voicesGo 40 = .ok (.iload_n 2, 1) := by decide +kernel
theorem dX7_voicesGo_41 : decode cX7_voicesGo 41 = .ok (.bipush 7, 2) := by decide +kernel
theorem dX7_voicesGo_43 : decode cX7_voicesGo 43 = .ok (.invokevirtual 64, 3) := by decide +kernel
theorem dX7_voicesGo_46 : decode cX7_voicesGo 46 = .ok (.iload_n 1, 1) := by decide +kernel
theorem dX7_voicesGo_47 : decode cX7_voicesGo 47 = .ok (.iconst 1, 1) := by decide +kernel
theorem dX7_voicesGo_48 : decode cX7_voicesGo 48 = .ok (.iadd, 1) := by decide +kernel
theorem dX7_voicesGo_49 : decode cX7_voicesGo 49 = .ok (.if_icmp .ne 11, 3) := by decide +kernel
theorem dX7_voicesGo_52 : decode cX7_voicesGo 52 = .ok (.aload_n 0, 1) := by decide +kernel
theorem dX7_voicesGo_53 : decode cX7_voicesGo 53 = .ok (.iload_n 2, 1) := by decide +kernel
theorem dX7_voicesGo_54 : decode cX7_voicesGo 54 = .ok (.bipush 7, 2) := by decide +kernel
theorem dX7_voicesGo_56 : decode cX7_voicesGo 56 = .ok (.iconst 0, 1) := by decide +kernel
theorem dX7_voicesGo_57 : decode cX7_voicesGo 57 = .ok (.invokevirtual 76, 3) := by decide +kernel
theorem dX7_voicesGo_60 : decode cX7_voicesGo 60 = .ok (.iinc 2 1, 3) := by decide +kernel
theorem dX7_voicesGo_63 : decode cX7_voicesGo 63 = .ok (.goto (-34), 3) := by decide +kernel
theorem dX7_voicesGo_66 : decode cX7_voicesGo 66 = .ok (.return_, 1) := by decide +kernel
theorem dX7_stamps_0 : decode cX7_stamps 0 = .ok (.aload_n 0, 1) := by decide +kernel
theorem dX7_stamps_1 : decode cX7_stamps 1 = .ok (.getfield 7, 3) := by decide +kernel
theorem dX7_stamps_4 : decode cX7_stamps 4 = .ok (.bipush 10, 2) := by decide +kernel
theorem dX7_stamps_6 : decode cX7_stamps 6 = .ok (.dup2, 1) := by decide +kernel
theorem dX7_stamps_7 : decode cX7_stamps 7 = .ok (.iaload, 1) := by decide +kernel
theorem dX7_stamps_8 : decode cX7_stamps 8 = .ok (.iconst 1, 1) := by decide +kernel
theorem dX7_stamps_9 : decode cX7_stamps 9 = .ok (.iadd, 1) := by decide +kernel
theorem dX7_stamps_10 : decode cX7_stamps 10 = .ok (.iastore, 1) := by decide +kernel
theorem dX7_stamps_11 : decode cX7_stamps 11 = .ok (.aload_n 0, 1) := by decide +kernel
theorem dX7_stamps_12 : decode cX7_stamps 12 = .ok (.iload_n 1, 1) := by decide +kernel
theorem dX7_stamps_13 : decode cX7_stamps 13 = .ok (.bipush 8, 2) := by decide +kernel
theorem dX7_stamps_15 : decode cX7_stamps 15 = .ok (.aload_n 0, 1) := by decide +kernel
theorem dX7_stamps_16 : decode cX7_stamps 16 = .ok (.getfield 7, 3) := by decide +kernel
theorem dX7_stamps_19 : decode cX7_stamps 19 = .ok (.bipush 10, 2) := by decide +kernel
theorem dX7_stamps_21 : decode cX7_stamps 21 = .ok (.iaload, 1) := by decide +kernel
theorem dX7_stamps_22 : decode cX7_stamps 22 = .ok (.invokevirtual 76, 3) := by decide +kernel
theorem dX7_stamps_25 : decode cX7_stamps 25 = .ok (.return_, 1) := by decide +kernel
theorem dX7_becomes_0 : decode cX7_becomes 0 = .ok (.aload_n 0, 1) := by decide +kernel
theorem dX7_becomes_1 : decode cX7_becomes 1 = .ok (.iload_n 1, 1) := by decide +kernel
theorem dX7_becomes_2 : decode cX7_becomes 2 = .ok (.iconst 2, 1) := by decide +kernel
theorem dX7_becomes_3 : decode cX7_becomes 3 = .ok (.iload_n 2, 1) := by decide +kernel
theorem dX7_becomes_4 : decode cX7_becomes 4 = .ok (.invokevirtual 76, 3) := by decide +kernel
theorem dX7_becomes_7 : decode cX7_becomes 7 = .ok (.aload_n 0, 1) := by decide +kernel
theorem dX7_becomes_8 : decode cX7_becomes 8 = .ok (.iload_n 1, 1) := by decide +kernel
theorem dX7_becomes_9 : decode cX7_becomes 9 = .ok (.iconst 5, 1) := by decide +kernel
theorem dX7_becomes_10 : decode cX7_becomes 10 = .ok (.iconst 0, 1) := by decide +kernel
theorem dX7_becomes_11 : decode cX7_becomes 11 = .ok (.invokevirtual 76, 3) := by decide +kernel
theorem dX7_becomes_14 : decode cX7_becomes 14 = .ok (.aload_n 0, 1) := by decide +kernel
theorem dX7_becomes_15 : decode cX7_becomes 15 = .ok (.iload_n 1, 1) := by decide +kernel
theorem dX7_becomes_16 : decode cX7_becomes 16 = .ok (.invokevirtual 80, 3) := by decide +kernel
theorem dX7_becomes_19 : decode cX7_becomes 19 = .ok (.return_, 1) := by decide +kernel
theorem dX7_come_0 : decode cX7_come 0 = .ok (.iload_n 1, 1) := by decide +kernel
theorem dX7_come_1 : decode cX7_come 1 = .ok (.bipush 50, 2) := by decide +kernel
theorem dX7_come_3 : decode cX7_come 3 = .ok (.bipush 90, 2) := by decide +kernel
theorem dX7_come_5 : decode cX7_come 5 = .ok (.invokestatic 60, 3) := by decide +kernel
theorem dX7_come_8 : decode cX7_come 8 = .ok (.ifCond .ne 6, 3) := by decide +kernel
theorem dX7_come_11 : decode cX7_come 11 = .ok (.bipush (-12), 2) := by decide +kernel
theorem dX7_come_13 : decode cX7_come 13 = .ok (.ireturn, 1) := by decide +kernel
theorem dX7_come_14 : decode cX7_come 14 = .ok (.aload_n 0, 1) := by decide +kernel
theorem dX7_come_15 : decode cX7_come 15 = .ok (.getfield 7, 3) := by decide +kernel
theorem dX7_come_18 : decode cX7_come 18 = .ok (.iconst 2, 1) := by decide +kernel
theorem dX7_come_19 : decode cX7_come 19 = .ok (.iaload, 1) := by decide +kernel
theorem dX7_come_20 : decode cX7_come 20 = .ok (.bipush 16, 2) := by decide +kernel
theorem dX7_come_22 : decode cX7_come 22 = .ok (.if_icmp .ne 15, 3) := by decide +kernel
theorem dX7_come_25 : decode cX7_come 25 = .ok (.aload_n 0, 1) := by decide +kernel
theorem dX7_come_26 : decode cX7_come 26 = .ok (.aload_n 0, 1) := by decide +kernel
theorem dX7_come_27 : decode cX7_come 27 = .ok (.iconst 1, 1) := by decide +kernel
theorem dX7_come_28 : decode cX7_come 28 = .ok (.bipush 16, 2) := by decide +kernel
theorem dX7_come_30 : decode cX7_come 30 = .ok (.invokevirtual 84, 3) := by decide +kernel
theorem dX7_come_33 : decode cX7_come 33 = .ok (.invokevirtual 87, 3) := by decide +kernel
theorem dX7_come_36 : decode cX7_come 36 = .ok (.ireturn, 1) := by decide +kernel
theorem dX7_come_37 : decode cX7_come 37 = .ok (.aload_n 0, 1) := by decide +kernel
theorem dX7_come_38 : decode cX7_come 38 = .ok (.invokevirtual 90, 3) := by decide +kernel
theorem dX7_come_41 : decode cX7_come 41 = .ok (.aload_n 0, 1) := by decide +kernel
theorem dX7_come_42 : decode cX7_come 42 = .ok (.getfield 7, 3) := by decide +kernel
theorem dX7_come_45 : decode cX7_come 45 = .ok (.iconst 2, 1) := by decide +kernel
theorem dX7_come_46 : decode cX7_come 46 = .ok (.iaload, 1) := by decide +kernel
theorem dX7_come_47 : decode cX7_come 47 = .ok (.istore_n 3, 1) := by decide +kernel
theorem dX7_come_48 : decode cX7_come 48 = .ok (.aload_n 0, 1) := by decide +kernel
theorem dX7_come_49 : decode cX7_come 49 = .ok (.getfield 7, 3) := by decide +kernel
theorem dX7_come_52 : decode cX7_come 52 = .ok (.iconst 2, 1) := by decide +kernel
theorem dX7_come_53 : decode cX7_come 53 = .ok (.dup2, 1) := by decide +kernel
theorem dX7_come_54 : decode cX7_come 54 = .ok (.iaload, 1) := by decide +kernel
theorem dX7_come_55 : decode cX7_come 55 = .ok (.iconst 1, 1) := by decide +kernel
theorem dX7_come_56 : decode cX7_come 56 = .ok (.iadd, 1) := by decide +kernel
theorem dX7_come_57 : decode cX7_come 57 = .ok (.iastore, 1) := by decide +kernel
theorem dX7_come_58 : decode cX7_come 58 = .ok (.aload_n 0, 1) := by decide +kernel
theorem dX7_come_59 : decode cX7_come 59 = .ok (.iload_n 3, 1) := by decide +kernel
theorem dX7_come_60 : decode cX7_come 60 = .ok (.iconst 0, 1) := by decide +kernel
theorem dX7_come_61 : decode cX7_come 61 = .ok (.iload_n 1, 1) := by decide +kernel
theorem dX7_come_62 : decode cX7_come 62 = .ok (.invokevirtual 76, 3) := by decide +kernel
theorem dX7_come_65 : decode cX7_come 65 = .ok (.aload_n 0, 1) := by decide +kernel
theorem dX7_come_66 : decode cX7_come 66 = .ok (.iload_n 3, 1) := by decide +kernel
theorem dX7_come_67 : decode cX7_come 67 = .ok (.iconst 1, 1) := by decide +kernel
theorem dX7_come_68 : decode cX7_come 68 = .ok (.iload_n 2, 1) := by decide +kernel
theorem dX7_come_69 : decode cX7_come 69 = .ok (.ifCond .eq 7, 3) := by decide +kernel
theorem dX7_come_72 : decode cX7_come 72 = .ok (.iconst 1, 1) := by decide +kernel
theorem dX7_come_73 : decode cX7_come 73 = .ok (.goto 4, 3) := by decide +kernel
theorem dX7_come_76 : decode cX7_come 76 = .ok (.iconst 0, 1) := by decide +kernel
theorem dX7_come_77 : decode cX7_come 77 = .ok (.invokevirtual 76, 3) := by decide +kernel
theorem dX7_come_80 : decode cX7_come 80 = .ok (.aload_n 0, 1) := by decide +kernel
theorem dX7_come_81 : decode cX7_come 81 = .ok (.iload_n 3, 1) := by decide +kernel
theorem dX7_come_82 : decode cX7_come 82 = .ok (.invokevirtual 93, 3) := by decide +kernel
theorem dX7_come_85 : decode cX7_come 85 = .ok (.iload_n 3, 1) := by decide +kernel
theorem dX7_come_86 : decode cX7_come 86 = .ok (.ireturn, 1) := by decide +kernel
theorem dX7_withdraw_0 : decode cX7_withdraw 0 = .ok (.aload_n 0, 1) := by decide +kernel
theorem dX7_withdraw_1 : decode cX7_withdraw 1 = .ok (.iload_n 1, 1) := by decide +kernel
theorem dX7_withdraw_2 : decode cX7_withdraw 2 = .ok (.invokevirtual 96, 3) := by decide +kernel
theorem dX7_withdraw_5 : decode cX7_withdraw 5 = .ok (.ifCond .ne 6, 3) := by decide +kernel
theorem dX7_withdraw_8 : decode cX7_withdraw 8 = .ok (.bipush (-11), 2) := by decide +kernel
theorem dX7_withdraw_10 : decode cX7_withdraw 10 = .ok (.ireturn, 1) := by decide +kernel
theorem dX7_withdraw_11 : decode cX7_withdraw 11 = .ok (.aload_n 0, 1) := by decide +kernel
theorem dX7_withdraw_12 : decode cX7_withdraw 12 = .ok (.iload_n 1, 1) := by decide +kernel
theorem dX7_withdraw_13 : decode cX7_withdraw 13 = .ok (.iconst 0, 1) := by decide +kernel
theorem dX7_withdraw_14 : decode cX7_withdraw 14 = .ok (.invokevirtual 68, 3) := by decide +kernel
theorem dX7_withdraw_17 : decode cX7_withdraw 17 = .ok (.ifCond .ne 19, 3) := by decide +kernel
theorem dX7_withdraw_20 : decode cX7_withdraw 20 = .ok (.aload_n 0, 1) := by decide +kernel
theorem dX7_withdraw_21 : decode cX7_withdraw 21 = .ok (.aload_n 0, 1) := by decide +kernel
theorem dX7_withdraw_22 : decode cX7_withdraw 22 = .ok (.iconst 2, 1) := by decide +kernel
theorem dX7_withdraw_23 : decode cX7_withdraw 23 = .ok (.aload_n 0, 1) := by decide +kernel
theorem dX7_withdraw_24 : decode cX7_withdraw 24 = .ok (.iload_n 1, 1) := by decide +kernel
theorem dX7_withdraw_25 : decode cX7_withdraw 25 = .ok (.iconst 2, 1) := by decide +kernel
theorem dX7_withdraw_26 : decode cX7_withdraw 26 = .ok (.invokevirtual 64, 3) := by decide +kernel
theorem dX7_withdraw_29 : decode cX7_withdraw 29 = .ok (.invokevirtual 84, 3) := by decide +kernel
theorem dX7_withdraw_32 : decode cX7_withdraw 32 = .ok (.invokevirtual 87, 3) := by decide +kernel
theorem dX7_withdraw_35 : decode cX7_withdraw 35 = .ok (.ireturn, 1) := by decide +kernel
theorem dX7_withdraw_36 : decode cX7_withdraw 36 = .ok (.aload_n 0, 1) := by decide +kernel
theorem dX7_withdraw_37 : decode cX7_withdraw 37 = .ok (.invokevirtual 90, 3) := by decide +kernel
theorem dX7_withdraw_40 : decode cX7_withdraw 40 = .ok (.aload_n 0, 1) := by decide +kernel
theorem dX7_withdraw_41 : decode cX7_withdraw 41 = .ok (.iload_n 1, 1) := by decide +kernel
theorem dX7_withdraw_42 : decode cX7_withdraw 42 = .ok (.iconst 3, 1) := by decide +kernel
theorem dX7_withdraw_43 : decode cX7_withdraw 43 = .ok (.invokevirtual 100, 3) := by decide +kernel
theorem dX7_withdraw_46 : decode cX7_withdraw 46 = .ok (.aload_n 0, 1) := by decide +kernel
theorem dX7_withdraw_47 : decode cX7_withdraw 47 = .ok (.iconst 0, 1) := by decide +kernel
theorem dX7_withdraw_48 : decode cX7_withdraw 48 = .ok (.invokevirtual 104, 3) := by decide +kernel
theorem dX7_withdraw_51 : decode cX7_withdraw 51 = .ok (.ireturn, 1) := by decide +kernel
theorem dX7_notVoice_0 : decode cX7_notVoice 0 = .ok (.aload_n 0, 1) := by decide +kernel
theorem dX7_notVoice_1 : decode cX7_notVoice 1 = .ok (.iload_n 1, 1) := by decide +kernel
theorem dX7_notVoice_2 : decode cX7_notVoice 2 = .ok (.invokevirtual 96, 3) := by decide +kernel
theorem dX7_notVoice_5 : decode cX7_notVoice 5 = .ok (.ifCond .eq 11, 3) := by decide +kernel
theorem dX7_notVoice_8 : decode cX7_notVoice 8 = .ok (.aload_n 0, 1) := by decide +kernel
theorem dX7_notVoice_9 : decode cX7_notVoice 9 = .ok (.iload_n 2, 1) := by decide +kernel
theorem dX7_notVoice_10 : decode cX7_notVoice 10 = .ok (.invokevirtual 96, 3) := by decide +kernel
theorem dX7_notVoice_13 : decode cX7_notVoice 13 = .ok (.ifCond .ne 6, 3) := by decide +kernel
theorem dX7_notVoice_16 : decode cX7_notVoice 16 = .ok (.bipush (-11), 2) := by decide +kernel
theorem dX7_notVoice_18 : decode cX7_notVoice 18 = .ok (.ireturn, 1) := by decide +kernel
theorem dX7_notVoice_19 : decode cX7_notVoice 19 = .ok (.aload_n 0, 1) := by decide +kernel
theorem dX7_notVoice_20 : decode cX7_notVoice 20 = .ok (.iload_n 1, 1) := by decide +kernel
theorem dX7_notVoice_21 : decode cX7_notVoice 21 = .ok (.iconst 1, 1) := by decide +kernel
theorem dX7_notVoice_22 : decode cX7_notVoice 22 = .ok (.invokevirtual 68, 3) := by decide +kernel
theorem dX7_notVoice_25 : decode cX7_notVoice 25 = .ok (.ifCond .ne 15, 3) := by decide +kernel
theorem dX7_notVoice_28 : decode cX7_notVoice 28 = .ok (.aload_n 0, 1) := by decide +kernel
theorem dX7_notVoice_29 : decode cX7_notVoice 29 = .ok (.iconst 3, 1) := by decide +kernel
theorem dX7_notVoice_30 : decode cX7_notVoice 30 = .ok (.aload_n 0, 1) := by decide +kernel
theorem dX7_notVoice_31 : decode cX7_notVoice 31 = .ok (.iload_n 1, 1) := by decide +kernel
theorem dX7_notVoice_32 : decode cX7_notVoice 32 = .ok (.iconst 2, 1) := by decide +kernel
theorem dX7_notVoice_33 : decode cX7_notVoice 33 = .ok (.invokevirtual 64, 3) := by decide +kernel
theorem dX7_notVoice_36 : decode cX7_notVoice 36 = .ok (.invokevirtual 84, 3) := by decide +kernel
theorem dX7_notVoice_39 : decode cX7_notVoice 39 = .ok (.ireturn, 1) := by decide +kernel
theorem dX7_notVoice_40 : decode cX7_notVoice 40 = .ok (.aload_n 0, 1) := by decide +kernel
theorem dX7_notVoice_41 : decode cX7_notVoice 41 = .ok (.iload_n 1, 1) := by decide +kernel
theorem dX7_notVoice_42 : decode cX7_notVoice 42 = .ok (.iconst 5, 1) := by decide +kernel
theorem dX7_notVoice_43 : decode cX7_notVoice 43 = .ok (.invokevirtual 64, 3) := by decide +kernel
theorem dX7_notVoice_46 : decode cX7_notVoice 46 = .ok (.ifCond .le 15, 3) := by decide +kernel
theorem dX7_notVoice_49 : decode cX7_notVoice 49 = .ok (.aload_n 0, 1) := by decide +kernel
theorem dX7_notVoice_50 : decode cX7_notVoice 50 = .ok (.iconst 4, 1) := by decide +kernel
theorem dX7_notVoice_51 : decode cX7_notVoice 51 = .ok (.aload_n 0, 1) := by decide +kernel
theorem dX7_notVoice_52 : decode cX7_notVoice 52 = .ok (.iload_n 1, 1) := by decide +kernel
theorem dX7_notVoice_53 : decode cX7_notVoice 53 = .ok (.iconst 5, 1) := by decide +kernel
theorem dX7_notVoice_54 : decode cX7_notVoice 54 = .ok (.invokevirtual 64, 3) := by decide +kernel
theorem dX7_notVoice_57 : decode cX7_notVoice 57 = .ok (.invokevirtual 84, 3) := by decide +kernel
theorem dX7_notVoice_60 : decode cX7_notVoice 60 = .ok (.ireturn, 1) := by decide +kernel
theorem dX7_notVoice_61 : decode cX7_notVoice 61 = .ok (.aload_n 0, 1) := by decide +kernel
theorem dX7_notVoice_62 : decode cX7_notVoice 62 = .ok (.iload_n 2, 1) := by decide +kernel
theorem dX7_notVoice_63 : decode cX7_notVoice 63 = .ok (.iconst 0, 1) := by decide +kernel
theorem dX7_notVoice_64 : decode cX7_notVoice 64 = .ok (.invokevirtual 68, 3) := by decide +kernel
theorem dX7_notVoice_67 : decode cX7_notVoice 67 = .ok (.ifCond .eq 7, 3) := by decide +kernel
theorem dX7_notVoice_70 : decode cX7_notVoice 70 = .ok (.iconst 0, 1) := by decide +kernel
theorem dX7_notVoice_71 : decode cX7_notVoice 71 = .ok (.goto 14, 3) := by decide +kernel
theorem dX7_notVoice_74 : decode cX7_notVoice 74 = .ok (.aload_n 0, 1) := by decide +kernel
theorem dX7_notVoice_75 : decode cX7_notVoice 75 = .ok (.iconst 2, 1) := by decide +kernel
theorem dX7_notVoice_76 : decode cX7_notVoice 76 = .ok (.aload_n 0, 1) := by decide +kernel
theorem dX7_notVoice_77 : decode cX7_notVoice 77 = .ok (.iload_n 2, 1) := by decide +kernel
theorem dX7_notVoice_78 : decode cX7_notVoice 78 = .ok (.iconst 2, 1) := by decide +kernel
theorem dX7_notVoice_79 : decode cX7_notVoice 79 = .ok (.invokevirtual 64, 3) := by decide +kernel
theorem dX7_notVoice_82 : decode cX7_notVoice 82 = .ok (.invokevirtual 84, 3) := by decide +kernel
theorem dX7_notVoice_85 : decode cX7_notVoice 85 = .ok (.ireturn, 1) := by decide +kernel
theorem dX7_gives_0 : decode cX7_gives 0 = .ok (.aload_n 0, 1) := by decide +kernel
theorem dX7_gives_1 : decode cX7_gives 1 = .ok (.iload_n 1, 1) := by decide +kernel
theorem dX7_gives_2 : decode cX7_gives 2 = .ok (.bipush 7, 2) := by decide +kernel
theorem dX7_gives_4 : decode cX7_gives 4 = .ok (.iload_n 2, 1) := by decide +kernel
theorem dX7_gives_5 : decode cX7_gives 5 = .ok (.iconst 1, 1) := by decide +kernel
theorem dX7_gives_6 : decode cX7_gives 6 = .ok (.iadd, 1) := by decide +kernel
theorem dX7_gives_7 : decode cX7_gives 7 = .ok (.invokevirtual 76, 3) := by decide +kernel
theorem dX7_gives_10 : decode cX7_gives 10 = .ok (.aload_n 0, 1) := by decide +kernel
theorem dX7_gives_11 : decode cX7_gives 11 = .ok (.iload_n 2, 1) := by decide +kernel
theorem dX7_gives_12 : decode cX7_gives 12 = .ok (.invokevirtual 107, 3) := by decide +kernel
theorem dX7_gives_15 : decode cX7_gives 15 = .ok (.ireturn, 1) := by decide +kernel
theorem dX7_voice_0 : decode cX7_voice 0 = .ok (.aload_n 0, 1) := by decide +kernel
theorem dX7_voice_1 : decode cX7_voice 1 = .ok (.iload_n 1, 1) := by decide +kernel
theorem dX7_voice_2 : decode cX7_voice 2 = .ok (.iload_n 2, 1) := by decide +kernel
theorem dX7_voice_3 : decode cX7_voice 3 = .ok (.invokevirtual 110, 3) := by decide +kernel
theorem dX7_voice_6 : decode cX7_voice 6 = .ok (.istore_n 3, 1) := by decide +kernel
theorem dX7_voice_7 : decode cX7_voice 7 = .ok (.iload_n 3, 1) := by decide +kernel
theorem dX7_voice_8 : decode cX7_voice 8 = .ok (.ifCond .eq 9, 3) := by decide +kernel
theorem dX7_voice_11 : decode cX7_voice 11 = .ok (.aload_n 0, 1) := by decide +kernel
theorem dX7_voice_12 : decode cX7_voice 12 = .ok (.iload_n 3, 1) := by decide +kernel
theorem dX7_voice_13 : decode cX7_voice 13 = .ok (.invokevirtual 87, 3) := by decide +kernel
theorem dX7_voice_16 : decode cX7_voice 16 = .ok (.ireturn, 1) := by decide +kernel
theorem dX7_voice_17 : decode cX7_voice 17 = .ok (.aload_n 0, 1) := by decide +kernel
theorem dX7_voice_18 : decode cX7_voice 18 = .ok (.invokevirtual 90, 3) := by decide +kernel
theorem dX7_voice_21 : decode cX7_voice 21 = .ok (.aload_n 0, 1) := by decide +kernel
theorem dX7_voice_22 : decode cX7_voice 22 = .ok (.iload_n 1, 1) := by decide +kernel
theorem dX7_voice_23 : decode cX7_voice 23 = .ok (.iload_n 2, 1) := by decide +kernel
theorem dX7_voice_24 : decode cX7_voice 24 = .ok (.invokevirtual 113, 3) := by decide +kernel
theorem dX7_voice_27 : decode cX7_voice 27 = .ok (.ireturn, 1) := by decide +kernel
theorem dX7_isChosenAhead_0 : decode cX7_isChosenAhead 0 = .ok (.aload_n 0, 1) := by decide +kernel
theorem dX7_isChosenAhead_1 : decode cX7_isChosenAhead 1 = .ok (.iload_n 1, 1) := by decide +kernel
theorem dX7_isChosenAhead_2 : decode cX7_isChosenAhead 2 = .ok (.invokevirtual 107, 3) := by decide +kernel
theorem dX7_isChosenAhead_5 : decode cX7_isChosenAhead 5 = .ok (.aload_n 0, 1) := by decide +kernel
theorem dX7_isChosenAhead_6 : decode cX7_isChosenAhead 6 = .ok (.iload_n 2, 1) := by decide +kernel
theorem dX7_isChosenAhead_7 : decode cX7_isChosenAhead 7 = .ok (.invokevirtual 107, 3) := by decide +kernel
theorem dX7_isChosenAhead_10 : decode cX7_isChosenAhead 10 = .ok (.if_icmp .eq 24, 3) := by decide +kernel
theorem dX7_isChosenAhead_13 : decode cX7_isChosenAhead 13 = .ok (.aload_n 0, 1) := by decide +kernel
theorem dX7_isChosenAhead_14 : decode cX7_isChosenAhead 14 = .ok (.iload_n 1, 1) := by decide +kernel
theorem dX7_isChosenAhead_15 : decode cX7_isChosenAhead 15 = .ok (.invokevirtual 107, 3) := by decide +kernel
theorem dX7_isChosenAhead_18 : decode cX7_isChosenAhead 18 = .ok (.aload_n 0, 1) := by decide +kernel
theorem dX7_isChosenAhead_19 : decode cX7_isChosenAhead 19 = .ok (.iload_n 2, 1) := by decide +kernel
theorem dX7_isChosenAhead_20 : decode cX7_isChosenAhead 20 = .ok (.invokevirtual 107, 3) := by decide +kernel
theorem dX7_isChosenAhead_23 : decode cX7_isChosenAhead 23 = .ok (.if_icmp .le 7, 3) := by decide +kernel
theorem dX7_isChosenAhead_26 : decode cX7_isChosenAhead 26 = .ok (.iconst 1, 1) := by decide +kernel
theorem dX7_isChosenAhead_27 : decode cX7_isChosenAhead 27 = .ok (.goto 29, 3) := by decide +kernel
theorem dX7_isChosenAhead_30 : decode cX7_isChosenAhead 30 = .ok (.iconst 0, 1) := by decide +kernel
theorem dX7_isChosenAhead_31 : decode cX7_isChosenAhead 31 = .ok (.goto 25, 3) := by decide +kernel
theorem dX7_isChosenAhead_34 : decode cX7_isChosenAhead 34 = .ok (.aload_n 0, 1) := by decide +kernel
theorem dX7_isChosenAhead_35 : decode cX7_isChosenAhead 35 = .ok (.iload_n 1, 1) := by decide +kernel
theorem dX7_isChosenAhead_36 : decode cX7_isChosenAhead 36 = .ok (.bipush 8, 2) := by decide +kernel
theorem dX7_isChosenAhead_38 : decode cX7_isChosenAhead 38 = .ok (.invokevirtual 64, 3) := by decide +kernel
theorem dX7_isChosenAhead_41 : decode cX7_isChosenAhead 41 = .ok (.aload_n 0, 1) := by decide +kernel
theorem dX7_isChosenAhead_42 : decode cX7_isChosenAhead 42 = .ok (.iload_n 2, 1) := by decide +kernel
theorem dX7_isChosenAhead_43 : decode cX7_isChosenAhead 43 = .ok (.bipush 8, 2) := by decide +kernel
theorem dX7_isChosenAhead_45 : decode cX7_isChosenAhead 45 = .ok (.invokevirtual 64, 3) := by decide +kernel
theorem dX7_isChosenAhead_48 : decode cX7_isChosenAhead 48 = .ok (.if_icmp .ge 7, 3) := by decide +kernel
theorem dX7_isChosenAhead_51 : decode cX7_isChosenAhead 51 = .ok (.iconst 1, 1) := by decide +kernel
theorem dX7_isChosenAhead_52 : decode cX7_isChosenAhead 52 = .ok (.goto 4, 3) := by decide +kernel
theorem dX7_isChosenAhead_55 : decode cX7_isChosenAhead 55 = .ok (.iconst 0, 1) := by decide +kernel
theorem dX7_isChosenAhead_56 : decode cX7_isChosenAhead 56 = .ok (.ireturn, 1) := by decide +kernel
theorem dX7_rankedAt_0 : decode cX7_rankedAt 0 = .ok (.iconst 0, 1) := by decide +kernel
theorem dX7_rankedAt_1 : decode cX7_rankedAt 1 = .ok (.istore_n 2, 1) := by decide +kernel
theorem dX7_rankedAt_2 : decode cX7_rankedAt 2 = .ok (.iload_n 2, 1) := by decide +kernel
theorem dX7_rankedAt_3 : decode cX7_rankedAt 3 = .ok (.aload_n 0, 1) := by decide +kernel
theorem dX7_rankedAt_4 : decode cX7_rankedAt 4 = .ok (.getfield 7, 3) := by decide +kernel
theorem dX7_rankedAt_7 : decode cX7_rankedAt 7 = .ok (.iconst 2, 1) := by decide +kernel
theorem dX7_rankedAt_8 : decode cX7_rankedAt 8 = .ok (.iaload, 1) := by decide +kernel
theorem dX7_rankedAt_9 : decode cX7_rankedAt 9 = .ok (.if_icmp .ge 78, 3) := by decide +kernel
theorem dX7_rankedAt_12 : decode cX7_rankedAt 12 = .ok (.aload_n 0, 1) := by decide +kernel
theorem dX7_rankedAt_13 : decode cX7_rankedAt 13 = .ok (.iload_n 2, 1) := by decide +kernel
theorem dX7_rankedAt_14 : decode cX7_rankedAt 14 = .ok (.iconst 0, 1) := by decide +kernel
theorem dX7_rankedAt_15 : decode cX7_rankedAt 15 = .ok (.invokevirtual 68, 3) := by decide +kernel
theorem dX7_rankedAt_18 : decode cX7_rankedAt 18 = .ok (.ifCond .ne 6, 3) := by decide +kernel
theorem dX7_rankedAt_21 : decode cX7_rankedAt 21 = .ok (.goto 60, 3) := by decide +kernel
theorem dX7_rankedAt_24 : decode cX7_rankedAt 24 = .ok (.iconst 0, 1) := by decide +kernel
theorem dX7_rankedAt_25 : decode cX7_rankedAt 25 = .ok (.istore_n 3, 1) := by decide +kernel
theorem dX7_rankedAt_26 : decode cX7_rankedAt 26 = .ok (.iconst 0, 1) := by decide +kernel
theorem dX7_rankedAt_27 : decode cX7_rankedAt 27 = .ok (.istore 4, 2) := by decide +kernel
theorem dX7_rankedAt_29 : decode cX7_rankedAt 29 = .ok (.iload 4, 2) := by decide +kernel
theorem dX7_rankedAt_31 : decode cX7_rankedAt 31 = .ok (.aload_n 0, 1) := by decide +kernel
theorem dX7_rankedAt_32 : decode cX7_rankedAt 32 = .ok (.getfield 7, 3) := by decide +kernel
theorem dX7_rankedAt_35 : decode cX7_rankedAt 35 = .ok (.iconst 2, 1) := by decide +kernel
theorem dX7_rankedAt_36 : decode cX7_rankedAt 36 = .ok (.iaload, 1) := by decide +kernel
theorem dX7_rankedAt_37 : decode cX7_rankedAt 37 = .ok (.if_icmp .ge 37, 3) := by decide +kernel
theorem dX7_rankedAt_40 : decode cX7_rankedAt 40 = .ok (.iload_n 3, 1) := by decide +kernel
theorem dX7_rankedAt_41 : decode cX7_rankedAt 41 = .ok (.aload_n 0, 1) := by decide +kernel
theorem dX7_rankedAt_42 : decode cX7_rankedAt 42 = .ok (.iload 4, 2) := by decide +kernel
theorem dX7_rankedAt_44 : decode cX7_rankedAt 44 = .ok (.iconst 0, 1) := by decide +kernel
theorem dX7_rankedAt_45 : decode cX7_rankedAt 45 = .ok (.invokevirtual 68, 3) := by decide +kernel
theorem dX7_rankedAt_48 : decode cX7_rankedAt 48 = .ok (.ifCond .eq 17, 3) := by decide +kernel
theorem dX7_rankedAt_51 : decode cX7_rankedAt 51 = .ok (.aload_n 0, 1) := by decide +kernel
theorem dX7_rankedAt_52 : decode cX7_rankedAt 52 = .ok (.iload 4, 2) := by decide +kernel
theorem dX7_rankedAt_54 : decode cX7_rankedAt 54 = .ok (.iload_n 2, 1) := by decide +kernel
theorem dX7_rankedAt_55 : decode cX7_rankedAt 55 = .ok (.invokevirtual 116, 3) := by decide +kernel
theorem dX7_rankedAt_58 : decode cX7_rankedAt 58 = .ok (.ifCond .eq 7, 3) := by decide +kernel
theorem dX7_rankedAt_61 : decode cX7_rankedAt 61 = .ok (.iconst 1, 1) := by decide +kernel
theorem dX7_rankedAt_62 : decode cX7_rankedAt 62 = .ok (.goto 4, 3) := by decide +kernel
theorem dX7_rankedAt_65 : decode cX7_rankedAt 65 = .ok (.iconst 0, 1) := by decide +kernel
theorem dX7_rankedAt_66 : decode cX7_rankedAt 66 = .ok (.iadd, 1) := by decide +kernel
theorem dX7_rankedAt_67 : decode cX7_rankedAt 67 = .ok (.istore_n 3, 1) := by decide +kernel
theorem dX7_rankedAt_68 : decode cX7_rankedAt 68 = .ok (.iinc 4 1, 3) := by decide +kernel
theorem dX7_rankedAt_71 : decode cX7_rankedAt 71 = .ok (.goto (-42), 3) := by decide +kernel
theorem dX7_rankedAt_74 : decode cX7_rankedAt 74 = .ok (.iload_n 3, 1) := by decide +kernel
theorem dX7_rankedAt_75 : decode cX7_rankedAt 75 = .ok (.iload_n 1, 1) := by decide +kernel
theorem dX7_rankedAt_76 : decode cX7_rankedAt 76 = .ok (.if_icmp .ne 5, 3) := by decide +kernel
theorem dX7_rankedAt_79 : decode cX7_rankedAt 79 = .ok (.iload_n 2, 1) := by decide +kernel
theorem dX7_rankedAt_80 : decode cX7_rankedAt 80 = .ok (.ireturn, 1) := by decide +kernel
theorem dX7_rankedAt_81 : decode cX7_rankedAt 81 = .ok (.iinc 2 1, 3) := by decide +kernel
theorem dX7_rankedAt_84 : decode cX7_rankedAt 84 = .ok (.goto (-82), 3) := by decide +kernel
theorem dX7_rankedAt_87 : decode cX7_rankedAt 87 = .ok (.bipush (-11), 2) := by decide +kernel
theorem dX7_rankedAt_89 : decode cX7_rankedAt 89 = .ok (.ireturn, 1) := by decide +kernel
theorem dX7_notChoose_0 : decode cX7_notChoose 0 = .ok (.iload_n 1, 1) := by decide +kernel
theorem dX7_notChoose_1 : decode cX7_notChoose 1 = .ok (.invokestatic 119, 3) := by decide +kernel
theorem dX7_notChoose_4 : decode cX7_notChoose 4 = .ok (.ifCond .ne 6, 3) := by decide +kernel
theorem dX7_notChoose_7 : decode cX7_notChoose 7 = .ok (.bipush (-11), 2) := by decide +kernel
theorem dX7_notChoose_9 : decode cX7_notChoose 9 = .ok (.ireturn, 1) := by decide +kernel
theorem dX7_notChoose_10 : decode cX7_notChoose 10 = .ok (.aload_n 0, 1) := by decide +kernel
theorem dX7_notChoose_11 : decode cX7_notChoose 11 = .ok (.iload_n 1, 1) := by decide +kernel
theorem dX7_notChoose_12 : decode cX7_notChoose 12 = .ok (.invokevirtual 122, 3) := by decide +kernel
theorem dX7_notChoose_15 : decode cX7_notChoose 15 = .ok (.ifCond .lt 14, 3) := by decide +kernel
theorem dX7_notChoose_18 : decode cX7_notChoose 18 = .ok (.aload_n 0, 1) := by decide +kernel
theorem dX7_notChoose_19 : decode cX7_notChoose 19 = .ok (.iconst 5, 1) := by decide +kernel
theorem dX7_notChoose_20 : decode cX7_notChoose 20 = .ok (.aload_n 0, 1) := by decide +kernel
theorem dX7_notChoose_21 : decode cX7_notChoose 21 = .ok (.iload_n 1, 1) := by decide +kernel
theorem dX7_notChoose_22 : decode cX7_notChoose 22 = .ok (.invokevirtual 122, 3) := by decide +kernel
theorem dX7_notChoose_25 : decode cX7_notChoose 25 = .ok (.invokevirtual 84, 3) := by decide +kernel
theorem dX7_notChoose_28 : decode cX7_notChoose 28 = .ok (.ireturn, 1) := by decide +kernel
theorem dX7_notChoose_29 : decode cX7_notChoose 29 = .ok (.aload_n 0, 1) := by decide +kernel
theorem dX7_notChoose_30 : decode cX7_notChoose 30 = .ok (.iconst 0, 1) := by decide +kernel
theorem dX7_notChoose_31 : decode cX7_notChoose 31 = .ok (.invokevirtual 104, 3) := by decide +kernel
theorem dX7_notChoose_34 : decode cX7_notChoose 34 = .ok (.ifCond .ne 13, 3) := by decide +kernel
theorem dX7_notChoose_37 : decode cX7_notChoose 37 = .ok (.aload_n 0, 1) := by decide +kernel
theorem dX7_notChoose_38 : decode cX7_notChoose 38 = .ok (.bipush 6, 2) := by decide +kernel
theorem dX7_notChoose_40 : decode cX7_notChoose 40 = .ok (.iload_n 1, 1) := by decide +kernel
theorem dX7_notChoose_41 : decode cX7_notChoose 41 = .ok (.invokevirtual 84, 3) := by decide +kernel
theorem dX7_notChoose_44 : decode cX7_notChoose 44 = .ok (.goto 4, 3) := by decide +kernel
theorem dX7_notChoose_47 : decode cX7_notChoose 47 = .ok (.iconst 0, 1) := by decide +kernel
theorem dX7_notChoose_48 : decode cX7_notChoose 48 = .ok (.ireturn, 1) := by decide +kernel
theorem dX7_chooses_0 : decode cX7_chooses 0 = .ok (.aload_n 0, 1) := by decide +kernel
theorem dX7_chooses_1 : decode cX7_chooses 1 = .ok (.iconst 0, 1) := by decide +kernel
theorem dX7_chooses_2 : decode cX7_chooses 2 = .ok (.invokevirtual 125, 3) := by decide +kernel
theorem dX7_chooses_5 : decode cX7_chooses 5 = .ok (.istore_n 2, 1) := by decide +kernel
theorem dX7_chooses_6 : decode cX7_chooses 6 = .ok (.aload_n 0, 1) := by decide +kernel
theorem dX7_chooses_7 : decode cX7_chooses 7 = .ok (.iload_n 2, 1) := by decide +kernel
theorem dX7_chooses_8 : decode cX7_chooses 8 = .ok (.iconst 1, 1) := by decide +kernel
theorem dX7_chooses_9 : decode cX7_chooses 9 = .ok (.invokevirtual 100, 3) := by decide +kernel
theorem dX7_chooses_12 : decode cX7_chooses 12 = .ok (.aload_n 0, 1) := by decide +kernel
theorem dX7_chooses_13 : decode cX7_chooses 13 = .ok (.iload_n 2, 1) := by decide +kernel
theorem dX7_chooses_14 : decode cX7_chooses 14 = .ok (.iconst 3, 1) := by decide +kernel
theorem dX7_chooses_15 : decode cX7_chooses 15 = .ok (.iload_n 1, 1) := by decide +kernel
theorem dX7_chooses_16 : decode cX7_chooses 16 = .ok (.invokevirtual 76, 3) := by decide +kernel
theorem dX7_chooses_19 : decode cX7_chooses 19 = .ok (.aload_n 0, 1) := by decide +kernel
theorem dX7_chooses_20 : decode cX7_chooses 20 = .ok (.iload_n 2, 1) := by decide +kernel
theorem dX7_chooses_21 : decode cX7_chooses 21 = .ok (.iconst 4, 1) := by decide +kernel
theorem dX7_chooses_22 : decode cX7_chooses 22 = .ok (.iconst 0, 1) := by decide +kernel
theorem dX7_chooses_23 : decode cX7_chooses 23 = .ok (.invokevirtual 76, 3) := by decide +kernel
theorem dX7_chooses_26 : decode cX7_chooses 26 = .ok (.aload_n 0, 1) := by decide +kernel
theorem dX7_chooses_27 : decode cX7_chooses 27 = .ok (.iload_n 2, 1) := by decide +kernel
theorem dX7_chooses_28 : decode cX7_chooses 28 = .ok (.invokevirtual 93, 3) := by decide +kernel
theorem dX7_chooses_31 : decode cX7_chooses 31 = .ok (.iload_n 2, 1) := by decide +kernel
theorem dX7_chooses_32 : decode cX7_chooses 32 = .ok (.ireturn, 1) := by decide +kernel
theorem dX7_choose_0 : decode cX7_choose 0 = .ok (.aload_n 0, 1) := by decide +kernel
theorem dX7_choose_1 : decode cX7_choose 1 = .ok (.iload_n 1, 1) := by decide +kernel
theorem dX7_choose_2 : decode cX7_choose 2 = .ok (.invokevirtual 128, 3) := by decide +kernel
theorem dX7_choose_5 : decode cX7_choose 5 = .ok (.istore_n 2, 1) := by decide +kernel
theorem dX7_choose_6 : decode cX7_choose 6 = .ok (.iload_n 2, 1) := by decide +kernel
theorem dX7_choose_7 : decode cX7_choose 7 = .ok (.ifCond .eq 9, 3) := by decide +kernel
theorem dX7_choose_10 : decode cX7_choose 10 = .ok (.aload_n 0, 1) := by decide +kernel
theorem dX7_choose_11 : decode cX7_choose 11 = .ok (.iload_n 2, 1) := by decide +kernel
theorem dX7_choose_12 : decode cX7_choose 12 = .ok (.invokevirtual 87, 3) := by decide +kernel
theorem dX7_choose_15 : decode cX7_choose 15 = .ok (.ireturn, 1) := by decide +kernel
theorem dX7_choose_16 : decode cX7_choose 16 = .ok (.aload_n 0, 1) := by decide +kernel
theorem dX7_choose_17 : decode cX7_choose 17 = .ok (.invokevirtual 90, 3) := by decide +kernel
theorem dX7_choose_20 : decode cX7_choose 20 = .ok (.aload_n 0, 1) := by decide +kernel
theorem dX7_choose_21 : decode cX7_choose 21 = .ok (.iload_n 1, 1) := by decide +kernel
theorem dX7_choose_22 : decode cX7_choose 22 = .ok (.invokevirtual 131, 3) := by decide +kernel
theorem dX7_choose_25 : decode cX7_choose 25 = .ok (.ireturn, 1) := by decide +kernel
theorem dX7_notLeave_0 : decode cX7_notLeave 0 = .ok (.iload_n 1, 1) := by decide +kernel
theorem dX7_notLeave_1 : decode cX7_notLeave 1 = .ok (.invokestatic 119, 3) := by decide +kernel
theorem dX7_notLeave_4 : decode cX7_notLeave 4 = .ok (.ifCond .ne 6, 3) := by decide +kernel
theorem dX7_notLeave_7 : decode cX7_notLeave 7 = .ok (.bipush (-11), 2) := by decide +kernel
theorem dX7_notLeave_9 : decode cX7_notLeave 9 = .ok (.ireturn, 1) := by decide +kernel
theorem dX7_notLeave_10 : decode cX7_notLeave 10 = .ok (.aload_n 0, 1) := by decide +kernel
theorem dX7_notLeave_11 : decode cX7_notLeave 11 = .ok (.iload_n 1, 1) := by decide +kernel
theorem dX7_notLeave_12 : decode cX7_notLeave 12 = .ok (.invokevirtual 122, 3) := by decide +kernel
theorem dX7_notLeave_15 : decode cX7_notLeave 15 = .ok (.ifCond .ge 13, 3) := by decide +kernel
theorem dX7_notLeave_18 : decode cX7_notLeave 18 = .ok (.aload_n 0, 1) := by decide +kernel
theorem dX7_notLeave_19 : decode cX7_notLeave 19 = .ok (.bipush 7, 2) := by decide +kernel
theorem dX7_notLeave_21 : decode cX7_notLeave 21 = .ok (.iload_n 1, 1) := by decide +kernel
theorem dX7_notLeave_22 : decode cX7_notLeave 22 = .ok (.invokevirtual 84, 3) := by decide +kernel
theorem dX7_notLeave_25 : decode cX7_notLeave 25 = .ok (.goto 4, 3) := by decide +kernel
theorem dX7_notLeave_28 : decode cX7_notLeave 28 = .ok (.iconst 0, 1) := by decide +kernel
theorem dX7_notLeave_29 : decode cX7_notLeave 29 = .ok (.ireturn, 1) := by decide +kernel
theorem dX7_leaves_0 : decode cX7_leaves 0 = .ok (.aload_n 0, 1) := by decide +kernel
theorem dX7_leaves_1 : decode cX7_leaves 1 = .ok (.iload_n 1, 1) := by decide +kernel
theorem dX7_leaves_2 : decode cX7_leaves 2 = .ok (.invokevirtual 122, 3) := by decide +kernel
theorem dX7_leaves_5 : decode cX7_leaves 5 = .ok (.istore_n 2, 1) := by decide +kernel
theorem dX7_leaves_6 : decode cX7_leaves 6 = .ok (.aload_n 0, 1) := by decide +kernel
theorem dX7_leaves_7 : decode cX7_leaves 7 = .ok (.iload_n 2, 1) := by decide +kernel
theorem dX7_leaves_8 : decode cX7_leaves 8 = .ok (.iconst 3, 1) := by decide +kernel
theorem dX7_leaves_9 : decode cX7_leaves 9 = .ok (.invokevirtual 100, 3) := by decide +kernel
theorem dX7_leaves_12 : decode cX7_leaves 12 = .ok (.iload_n 2, 1) := by decide +kernel
theorem dX7_leaves_13 : decode cX7_leaves 13 = .ok (.ireturn, 1) := by decide +kernel
theorem dX7_leave_0 : decode cX7_leave 0 = .ok (.aload_n 0, 1) := by decide +kernel
theorem dX7_leave_1 : decode cX7_leave 1 = .ok (.iload_n 1, 1) := by decide +kernel
theorem dX7_leave_2 : decode cX7_leave 2 = .ok (.invokevirtual 134, 3) := by decide +kernel
theorem dX7_leave_5 : decode cX7_leave 5 = .ok (.istore_n 2, 1) := by decide +kernel
theorem dX7_leave_6 : decode cX7_leave 6 = .ok (.iload_n 2, 1) := by decide +kernel
theorem dX7_leave_7 : decode cX7_leave 7 = .ok (.ifCond .eq 9, 3) := by decide +kernel
theorem dX7_leave_10 : decode cX7_leave 10 = .ok (.aload_n 0, 1) := by decide +kernel
theorem dX7_leave_11 : decode cX7_leave 11 = .ok (.iload_n 2, 1) := by decide +kernel
theorem dX7_leave_12 : decode cX7_leave 12 = .ok (.invokevirtual 87, 3) := by decide +kernel
theorem dX7_leave_15 : decode cX7_leave 15 = .ok (.ireturn, 1) := by decide +kernel
theorem dX7_leave_16 : decode cX7_leave 16 = .ok (.aload_n 0, 1) := by decide +kernel
theorem dX7_leave_17 : decode cX7_leave 17 = .ok (.invokevirtual 90, 3) := by decide +kernel
theorem dX7_leave_20 : decode cX7_leave 20 = .ok (.aload_n 0, 1) := by decide +kernel
theorem dX7_leave_21 : decode cX7_leave 21 = .ok (.iload_n 1, 1) := by decide +kernel
theorem dX7_leave_22 : decode cX7_leave 22 = .ok (.invokevirtual 137, 3) := by decide +kernel
theorem dX7_leave_25 : decode cX7_leave 25 = .ok (.ireturn, 1) := by decide +kernel
theorem dX7_notFeast_0 : decode cX7_notFeast 0 = .ok (.iload_n 1, 1) := by decide +kernel
theorem dX7_notFeast_1 : decode cX7_notFeast 1 = .ok (.iconst 0, 1) := by decide +kernel
theorem dX7_notFeast_2 : decode cX7_notFeast 2 = .ok (.bipush 51, 2) := by decide +kernel
theorem dX7_notFeast_4 : decode cX7_notFeast 4 = .ok (.invokestatic 60, 3) := by decide +kernel
theorem dX7_notFeast_7 : decode cX7_notFeast 7 = .ok (.ifCond .eq 13, 3) := by decide +kernel
theorem dX7_notFeast_10 : decode cX7_notFeast 10 = .ok (.iload_n 2, 1) := by decide +kernel
theorem dX7_notFeast_11 : decode cX7_notFeast 11 = .ok (.iconst 1, 1) := by decide +kernel
theorem dX7_notFeast_12 : decode cX7_notFeast 12 = .ok (.bipush 9, 2) := by decide +kernel
theorem dX7_notFeast_14 : decode cX7_notFeast 14 = .ok (.invokestatic 60, 3) := by decide +kernel
theorem dX7_notFeast_17 : decode cX7_notFeast 17 = .ok (.ifCond .ne 6, 3) := by decide +kernel
theorem dX7_notFeast_20 : decode cX7_notFeast 20 = .ok (.bipush (-12), 2) := by decide +kernel
theorem dX7_notFeast_22 : decode cX7_notFeast 22 = .ok (.ireturn, 1) := by decide +kernel
theorem dX7_notFeast_23 : decode cX7_notFeast 23 = .ok (.aload_n 0, 1) := by decide +kernel
theorem dX7_notFeast_24 : decode cX7_notFeast 24 = .ok (.getfield 7, 3) := by decide +kernel
theorem dX7_notFeast_27 : decode cX7_notFeast 27 = .ok (.bipush 12, 2) := by decide +kernel
theorem dX7_notFeast_29 : decode cX7_notFeast 29 = .ok (.iload_n 1, 1) := by decide +kernel
theorem dX7_notFeast_30 : decode cX7_notFeast 30 = .ok (.iadd, 1) := by decide +kernel
theorem dX7_notFeast_31 : decode cX7_notFeast 31 = .ok (.iaload, 1) := by decide +kernel
theorem dX7_notFeast_32 : decode cX7_notFeast 32 = .ok (.ifCond .ne 26, 3) := by decide +kernel
theorem dX7_notFeast_35 : decode cX7_notFeast 35 = .ok (.aload_n 0, 1) := by decide +kernel
theorem dX7_notFeast_36 : decode cX7_notFeast 36 = .ok (.getfield 7, 3) := by decide +kernel
theorem dX7_notFeast_39 : decode cX7_notFeast 39 = .ok (.bipush 9, 2) := by decide +kernel
theorem dX7_notFeast_41 : decode cX7_notFeast 41 = .ok (.iaload, 1) := by decide +kernel
theorem dX7_notFeast_42 : decode cX7_notFeast 42 = .ok (.bipush 6, 2) := by decide +kernel
theorem dX7_notFeast_44 : decode cX7_notFeast 44 = .ok (.if_icmp .ne 14, 3) := by decide +kernel
theorem dX7_notFeast_47 : decode cX7_notFeast 47 = .ok (.aload_n 0, 1) := by decide +kernel
theorem dX7_notFeast_48 : decode cX7_notFeast 48 = .ok (.bipush 8, 2) := by decide +kernel
theorem dX7_notFeast_50 : decode cX7_notFeast 50 = .ok (.bipush 6, 2) := by decide +kernel
theorem dX7_notFeast_52 : decode cX7_notFeast 52 = .ok (.invokevirtual 84, 3) := by decide +kernel
theorem dX7_notFeast_55 : decode cX7_notFeast 55 = .ok (.goto 4, 3) := by decide +kernel
theorem dX7_notFeast_58 : decode cX7_notFeast 58 = .ok (.iconst 0, 1) := by decide +kernel
theorem dX7_notFeast_59 : decode cX7_notFeast 59 = .ok (.ireturn, 1) := by decide +kernel
theorem dX7_tells_0 : decode cX7_tells 0 = .ok (.aload_n 0, 1) := by decide +kernel
theorem dX7_tells_1 : decode cX7_tells 1 = .ok (.getfield 7, 3) := by decide +kernel
theorem dX7_tells_4 : decode cX7_tells 4 = .ok (.bipush 12, 2) := by decide +kernel
theorem dX7_tells_6 : decode cX7_tells 6 = .ok (.iload_n 1, 1) := by decide +kernel
theorem dX7_tells_7 : decode cX7_tells 7 = .ok (.iadd, 1) := by decide +kernel
theorem dX7_tells_8 : decode cX7_tells 8 = .ok (.iaload, 1) := by decide +kernel
theorem dX7_tells_9 : decode cX7_tells 9 = .ok (.ifCond .ne 14, 3) := by decide +kernel
theorem dX7_tells_12 : decode cX7_tells 12 = .ok (.aload_n 0, 1) := by decide +kernel
theorem dX7_tells_13 : decode cX7_tells 13 = .ok (.getfield 7, 3) := by decide +kernel
theorem dX7_tells_16 : decode cX7_tells 16 = .ok (.bipush 9, 2) := by decide +kernel
theorem dX7_tells_18 : decode cX7_tells 18 = .ok (.dup2, 1) := by decide +kernel
theorem dX7_tells_19 : decode cX7_tells 19 = .ok (.iaload, 1) := by decide +kernel
theorem dX7_tells_20 : decode cX7_tells 20 = .ok (.iconst 1, 1) := by decide +kernel
theorem dX7_tells_21 : decode cX7_tells 21 = .ok (.iadd, 1) := by decide +kernel
theorem dX7_tells_22 : decode cX7_tells 22 = .ok (.iastore, 1) := by decide +kernel
theorem dX7_tells_23 : decode cX7_tells 23 = .ok (.aload_n 0, 1) := by decide +kernel
theorem dX7_tells_24 : decode cX7_tells 24 = .ok (.getfield 7, 3) := by decide +kernel
theorem dX7_tells_27 : decode cX7_tells 27 = .ok (.bipush 12, 2) := by decide +kernel
theorem dX7_tells_29 : decode cX7_tells 29 = .ok (.iload_n 1, 1) := by decide +kernel
theorem dX7_tells_30 : decode cX7_tells 30 = .ok (.iadd, 1) := by decide +kernel
theorem dX7_tells_31 : decode cX7_tells 31 = .ok (.iload_n 2, 1) := by decide +kernel
theorem dX7_tells_32 : decode cX7_tells 32 = .ok (.iastore, 1) := by decide +kernel
theorem dX7_tells_33 : decode cX7_tells 33 = .ok (.aload_n 0, 1) := by decide +kernel
theorem dX7_tells_34 : decode cX7_tells 34 = .ok (.getfield 7, 3) := by decide +kernel
theorem dX7_tells_37 : decode cX7_tells 37 = .ok (.bipush 9, 2) := by decide +kernel
theorem dX7_tells_39 : decode cX7_tells 39 = .ok (.iaload, 1) := by decide +kernel
theorem dX7_tells_40 : decode cX7_tells 40 = .ok (.ireturn, 1) := by decide +kernel
theorem dX7_feast_0 : decode cX7_feast 0 = .ok (.aload_n 0, 1) := by decide +kernel
theorem dX7_feast_1 : decode cX7_feast 1 = .ok (.iload_n 1, 1) := by decide +kernel
theorem dX7_feast_2 : decode cX7_feast 2 = .ok (.iload_n 2, 1) := by decide +kernel
theorem dX7_feast_3 : decode cX7_feast 3 = .ok (.invokevirtual 140, 3) := by decide +kernel
theorem dX7_feast_6 : decode cX7_feast 6 = .ok (.istore_n 3, 1) := by decide +kernel
theorem dX7_feast_7 : decode cX7_feast 7 = .ok (.iload_n 3, 1) := by decide +kernel
theorem dX7_feast_8 : decode cX7_feast 8 = .ok (.ifCond .eq 9, 3) := by decide +kernel
theorem dX7_feast_11 : decode cX7_feast 11 = .ok (.aload_n 0, 1) := by decide +kernel
theorem dX7_feast_12 : decode cX7_feast 12 = .ok (.iload_n 3, 1) := by decide +kernel
theorem dX7_feast_13 : decode cX7_feast 13 = .ok (.invokevirtual 87, 3) := by decide +kernel
theorem dX7_feast_16 : decode cX7_feast 16 = .ok (.ireturn, 1) := by decide +kernel
theorem dX7_feast_17 : decode cX7_feast 17 = .ok (.aload_n 0, 1) := by decide +kernel
theorem dX7_feast_18 : decode cX7_feast 18 = .ok (.invokevirtual 90, 3) := by decide +kernel
theorem dX7_feast_21 : decode cX7_feast 21 = .ok (.aload_n 0, 1) := by decide +kernel
theorem dX7_feast_22 : decode cX7_feast 22 = .ok (.iload_n 1, 1) := by decide +kernel
theorem dX7_feast_23 : decode cX7_feast 23 = .ok (.iload_n 2, 1) := by decide +kernel
theorem dX7_feast_24 : decode cX7_feast 24 = .ok (.invokevirtual 143, 3) := by decide +kernel
theorem dX7_feast_27 : decode cX7_feast 27 = .ok (.ireturn, 1) := by decide +kernel
theorem dX7_notBreach_0 : decode cX7_notBreach 0 = .ok (.aload_n 0, 1) := by decide +kernel
theorem dX7_notBreach_1 : decode cX7_notBreach 1 = .ok (.iload_n 1, 1) := by decide +kernel
theorem dX7_notBreach_2 : decode cX7_notBreach 2 = .ok (.invokevirtual 96, 3) := by decide +kernel
theorem dX7_notBreach_5 : decode cX7_notBreach 5 = .ok (.ifCond .eq 12, 3) := by decide +kernel
theorem dX7_notBreach_8 : decode cX7_notBreach 8 = .ok (.iload_n 2, 1) := by decide +kernel
theorem dX7_notBreach_9 : decode cX7_notBreach 9 = .ok (.iconst 0, 1) := by decide +kernel
theorem dX7_notBreach_10 : decode cX7_notBreach 10 = .ok (.iconst 4, 1) := by decide +kernel
theorem dX7_notBreach_11 : decode cX7_notBreach 11 = .ok (.invokestatic 60, 3) := by decide +kernel
theorem dX7_notBreach_14 : decode cX7_notBreach 14 = .ok (.ifCond .ne 6, 3) := by decide +kernel
theorem dX7_notBreach_17 : decode cX7_notBreach 17 = .ok (.bipush (-11), 2) := by decide +kernel
theorem dX7_notBreach_19 : decode cX7_notBreach 19 = .ok (.ireturn, 1) := by decide +kernel
theorem dX7_notBreach_20 : decode cX7_notBreach 20 = .ok (.aload_n 0, 1) := by decide +kernel
theorem dX7_notBreach_21 : decode cX7_notBreach 21 = .ok (.iload_n 1, 1) := by decide +kernel
theorem dX7_notBreach_22 : decode cX7_notBreach 22 = .ok (.iconst 1, 1) := by decide +kernel
theorem dX7_notBreach_23 : decode cX7_notBreach 23 = .ok (.invokevirtual 68, 3) := by decide +kernel
theorem dX7_notBreach_26 : decode cX7_notBreach 26 = .ok (.ifCond .eq 7, 3) := by decide +kernel
theorem dX7_notBreach_29 : decode cX7_notBreach 29 = .ok (.iconst 0, 1) := by decide +kernel
theorem dX7_notBreach_30 : decode cX7_notBreach 30 = .ok (.goto 14, 3) := by decide +kernel
theorem dX7_notBreach_33 : decode cX7_notBreach 33 = .ok (.aload_n 0, 1) := by decide +kernel
theorem dX7_notBreach_34 : decode cX7_notBreach 34 = .ok (.iconst 3, 1) := by decide +kernel
theorem dX7_notBreach_35 : decode cX7_notBreach 35 = .ok (.aload_n 0, 1) := by decide +kernel
theorem dX7_notBreach_36 : decode cX7_notBreach 36 = .ok (.iload_n 1, 1) := by decide +kernel
theorem dX7_notBreach_37 : decode cX7_notBreach 37 = .ok (.iconst 2, 1) := by decide +kernel
theorem dX7_notBreach_38 : decode cX7_notBreach 38 = .ok (.invokevirtual 64, 3) := by decide +kernel
theorem dX7_notBreach_41 : decode cX7_notBreach 41 = .ok (.invokevirtual 84, 3) := by decide +kernel
theorem dX7_notBreach_44 : decode cX7_notBreach 44 = .ok (.ireturn, 1) := by decide +kernel
theorem dX7_breaks_0 : decode cX7_breaks 0 = .ok (.aload_n 0, 1) := by decide +kernel
theorem dX7_breaks_1 : decode cX7_breaks 1 = .ok (.iload_n 1, 1) := by decide +kernel
theorem dX7_breaks_2 : decode cX7_breaks 2 = .ok (.bipush 9, 2) := by decide +kernel
theorem dX7_breaks_4 : decode cX7_breaks 4 = .ok (.iload_n 2, 1) := by decide +kernel
theorem dX7_breaks_5 : decode cX7_breaks 5 = .ok (.iadd, 1) := by decide +kernel
theorem dX7_breaks_6 : decode cX7_breaks 6 = .ok (.invokevirtual 64, 3) := by decide +kernel
theorem dX7_breaks_9 : decode cX7_breaks 9 = .ok (.iconst 1, 1) := by decide +kernel
theorem dX7_breaks_10 : decode cX7_breaks 10 = .ok (.iadd, 1) := by decide +kernel
theorem dX7_breaks_11 : decode cX7_breaks 11 = .ok (.istore_n 3, 1) := by decide +kernel
theorem dX7_breaks_12 : decode cX7_breaks 12 = .ok (.aload_n 0, 1) := by decide +kernel
theorem dX7_breaks_13 : decode cX7_breaks 13 = .ok (.iload_n 1, 1) := by decide +kernel
theorem dX7_breaks_14 : decode cX7_breaks 14 = .ok (.bipush 9, 2) := by decide +kernel
theorem dX7_breaks_16 : decode cX7_breaks 16 = .ok (.iload_n 2, 1) := by decide +kernel
theorem dX7_breaks_17 : decode cX7_breaks 17 = .ok (.iadd, 1) := by decide +kernel
theorem dX7_breaks_18 : decode cX7_breaks 18 = .ok (.iload_n 3, 1) := by decide +kernel
theorem dX7_breaks_19 : decode cX7_breaks 19 = .ok (.invokevirtual 76, 3) := by decide +kernel
theorem dX7_breaks_22 : decode cX7_breaks 22 = .ok (.iload_n 3, 1) := by decide +kernel
theorem dX7_breaks_23 : decode cX7_breaks 23 = .ok (.iconst 3, 1) := by decide +kernel
theorem dX7_breaks_24 : decode cX7_breaks 24 = .ok (.if_icmp .ne 12, 3) := by decide +kernel
theorem dX7_breaks_27 : decode cX7_breaks 27 = .ok (.aload_n 0, 1) := by decide +kernel
theorem dX7_breaks_28 : decode cX7_breaks 28 = .ok (.iload_n 1, 1) := by decide +kernel
theorem dX7_breaks_29 : decode cX7_breaks 29 = .ok (.iconst 2, 1) := by decide +kernel
theorem dX7_breaks_30 : decode cX7_breaks 30 = .ok (.invokevirtual 100, 3) := by decide +kernel
theorem dX7_breaks_33 : decode cX7_breaks 33 = .ok (.goto 17, 3) := by decide +kernel
theorem dX7_breaks_36 : decode cX7_breaks 36 = .ok (.aload_n 0, 1) := by decide +kernel
theorem dX7_breaks_37 : decode cX7_breaks 37 = .ok (.iload_n 1, 1) := by decide +kernel
theorem dX7_breaks_38 : decode cX7_breaks 38 = .ok (.iconst 5, 1) := by decide +kernel
theorem dX7_breaks_39 : decode cX7_breaks 39 = .ok (.aload_n 0, 1) := by decide +kernel
theorem dX7_breaks_40 : decode cX7_breaks 40 = .ok (.iload_n 1, 1) := by decide +kernel
theorem dX7_breaks_41 : decode cX7_breaks 41 = .ok (.iconst 5, 1) := by decide +kernel
theorem dX7_breaks_42 : decode cX7_breaks 42 = .ok (.invokevirtual 64, 3) := by decide +kernel
theorem dX7_breaks_45 : decode cX7_breaks 45 = .ok (.iload_n 3, 1) := by decide +kernel
theorem dX7_breaks_46 : decode cX7_breaks 46 = .ok (.iadd, 1) := by decide +kernel
theorem dX7_breaks_47 : decode cX7_breaks 47 = .ok (.invokevirtual 76, 3) := by decide +kernel
theorem dX7_breaks_50 : decode cX7_breaks 50 = .ok (.aload_n 0, 1) := by decide +kernel
theorem dX7_breaks_51 : decode cX7_breaks 51 = .ok (.iload_n 1, 1) := by decide +kernel
theorem dX7_breaks_52 : decode cX7_breaks 52 = .ok (.iconst 5, 1) := by decide +kernel
theorem dX7_breaks_53 : decode cX7_breaks 53 = .ok (.invokevirtual 64, 3) := by decide +kernel
theorem dX7_breaks_56 : decode cX7_breaks 56 = .ok (.ireturn, 1) := by decide +kernel
theorem dX7_breach_0 : decode cX7_breach 0 = .ok (.aload_n 0, 1) := by decide +kernel
theorem dX7_breach_1 : decode cX7_breach 1 = .ok (.iload_n 1, 1) := by decide +kernel
theorem dX7_breach_2 : decode cX7_breach 2 = .ok (.iload_n 2, 1) := by decide +kernel
theorem dX7_breach_3 : decode cX7_breach 3 = .ok (.invokevirtual 146, 3) := by decide +kernel
theorem dX7_breach_6 : decode cX7_breach 6 = .ok (.istore_n 3, 1) := by decide +kernel
theorem dX7_breach_7 : decode cX7_breach 7 = .ok (.iload_n 3, 1) := by decide +kernel
theorem dX7_breach_8 : decode cX7_breach 8 = .ok (.ifCond .eq 9, 3) := by decide +kernel
theorem dX7_breach_11 : decode cX7_breach 11 = .ok (.aload_n 0, 1) := by decide +kernel
theorem dX7_breach_12 : decode cX7_breach 12 = .ok (.iload_n 3, 1) := by decide +kernel
theorem dX7_breach_13 : decode cX7_breach 13 = .ok (.invokevirtual 87, 3) := by decide +kernel
theorem dX7_breach_16 : decode cX7_breach 16 = .ok (.ireturn, 1) := by decide +kernel
theorem dX7_breach_17 : decode cX7_breach 17 = .ok (.aload_n 0, 1) := by decide +kernel
theorem dX7_breach_18 : decode cX7_breach 18 = .ok (.invokevirtual 90, 3) := by decide +kernel
theorem dX7_breach_21 : decode cX7_breach 21 = .ok (.aload_n 0, 1) := by decide +kernel
theorem dX7_breach_22 : decode cX7_breach 22 = .ok (.iload_n 1, 1) := by decide +kernel
theorem dX7_breach_23 : decode cX7_breach 23 = .ok (.iload_n 2, 1) := by decide +kernel
theorem dX7_breach_24 : decode cX7_breach 24 = .ok (.invokevirtual 149, 3) := by decide +kernel
theorem dX7_breach_27 : decode cX7_breach 27 = .ok (.ireturn, 1) := by decide +kernel
theorem dX7_notPardon_0 : decode cX7_notPardon 0 = .ok (.aload_n 0, 1) := by decide +kernel
theorem dX7_notPardon_1 : decode cX7_notPardon 1 = .ok (.iload_n 1, 1) := by decide +kernel
theorem dX7_notPardon_2 : decode cX7_notPardon 2 = .ok (.invokevirtual 96, 3) := by decide +kernel
theorem dX7_notPardon_5 : decode cX7_notPardon 5 = .ok (.ifCond .ne 6, 3) := by decide +kernel
theorem dX7_notPardon_8 : decode cX7_notPardon 8 = .ok (.bipush (-11), 2) := by decide +kernel
theorem dX7_notPardon_10 : decode cX7_notPardon 10 = .ok (.ireturn, 1) := by decide +kernel
theorem dX7_notPardon_11 : decode cX7_notPardon 11 = .ok (.aload_n 0, 1) := by decide +kernel
theorem dX7_notPardon_12 : decode cX7_notPardon 12 = .ok (.iload_n 1, 1) := by decide +kernel
theorem dX7_notPardon_13 : decode cX7_notPardon 13 = .ok (.iconst 1, 1) := by decide +kernel
theorem dX7_notPardon_14 : decode cX7_notPardon 14 = .ok (.invokevirtual 68, 3) := by decide +kernel
theorem dX7_notPardon_17 : decode cX7_notPardon 17 = .ok (.ifCond .ne 15, 3) := by decide +kernel
theorem dX7_notPardon_20 : decode cX7_notPardon 20 = .ok (.aload_n 0, 1) := by decide +kernel
theorem dX7_notPardon_21 : decode cX7_notPardon 21 = .ok (.iconst 3, 1) := by decide +kernel
theorem dX7_notPardon_22 : decode cX7_notPardon 22 = .ok (.aload_n 0, 1) := by decide +kernel
theorem dX7_notPardon_23 : decode cX7_notPardon 23 = .ok (.iload_n 1, 1) := by decide +kernel
theorem dX7_notPardon_24 : decode cX7_notPardon 24 = .ok (.iconst 2, 1) := by decide +kernel
theorem dX7_notPardon_25 : decode cX7_notPardon 25 = .ok (.invokevirtual 64, 3) := by decide +kernel
theorem dX7_notPardon_28 : decode cX7_notPardon 28 = .ok (.invokevirtual 84, 3) := by decide +kernel
theorem dX7_notPardon_31 : decode cX7_notPardon 31 = .ok (.ireturn, 1) := by decide +kernel
theorem dX7_notPardon_32 : decode cX7_notPardon 32 = .ok (.aload_n 0, 1) := by decide +kernel
theorem dX7_notPardon_33 : decode cX7_notPardon 33 = .ok (.iload_n 1, 1) := by decide +kernel
theorem dX7_notPardon_34 : decode cX7_notPardon 34 = .ok (.iconst 5, 1) := by decide +kernel
theorem dX7_notPardon_35 : decode cX7_notPardon 35 = .ok (.invokevirtual 64, 3) := by decide +kernel
theorem dX7_notPardon_38 : decode cX7_notPardon 38 = .ok (.ifCond .ne 11, 3) := by decide +kernel
theorem dX7_notPardon_41 : decode cX7_notPardon 41 = .ok (.aload_n 0, 1) := by decide +kernel
theorem dX7_notPardon_42 : decode cX7_notPardon 42 = .ok (.bipush 10, 2) := by decide +kernel
theorem dX7_notPardon_44 : decode cX7_notPardon 44 = .ok (.iload_n 1, 1) := by decide +kernel
theorem dX7_notPardon_45 : decode cX7_notPardon 45 = .ok (.invokevirtual 84, 3) := by decide +kernel
theorem dX7_notPardon_48 : decode cX7_notPardon 48 = .ok (.ireturn, 1) := by decide +kernel
theorem dX7_notPardon_49 : decode cX7_notPardon 49 = .ok (.aload_n 0, 1) := by decide +kernel
theorem dX7_notPardon_50 : decode cX7_notPardon 50 = .ok (.getfield 7, 3) := by decide +kernel
theorem dX7_notPardon_53 : decode cX7_notPardon 53 = .ok (.bipush 8, 2) := by decide +kernel
theorem dX7_notPardon_55 : decode cX7_notPardon 55 = .ok (.iaload, 1) := by decide +kernel
theorem dX7_notPardon_56 : decode cX7_notPardon 56 = .ok (.iconst 2, 1) := by decide +kernel
theorem dX7_notPardon_57 : decode cX7_notPardon 57 = .ok (.if_icmp .ne 13, 3) := by decide +kernel
theorem dX7_notPardon_60 : decode cX7_notPardon 60 = .ok (.aload_n 0, 1) := by decide +kernel
theorem dX7_notPardon_61 : decode cX7_notPardon 61 = .ok (.bipush 9, 2) := by decide +kernel
theorem dX7_notPardon_63 : decode cX7_notPardon 63 = .ok (.iconst 2, 1) := by decide +kernel
theorem dX7_notPardon_64 : decode cX7_notPardon 64 = .ok (.invokevirtual 84, 3) := by decide +kernel
theorem dX7_notPardon_67 : decode cX7_notPardon 67 = .ok (.goto 4, 3) := by decide +kernel
theorem dX7_notPardon_70 : decode cX7_notPardon 70 = .ok (.iconst 0, 1) := by decide +kernel
theorem dX7_notPardon_71 : decode cX7_notPardon 71 = .ok (.ireturn, 1) := by decide +kernel
theorem dX7_pardons_0 : decode cX7_pardons 0 = .ok (.aload_n 0, 1) := by decide +kernel
theorem dX7_pardons_1 : decode cX7_pardons 1 = .ok (.iload_n 1, 1) := by decide +kernel
theorem dX7_pardons_2 : decode cX7_pardons 2 = .ok (.iconst 5, 1) := by decide +kernel
theorem dX7_pardons_3 : decode cX7_pardons 3 = .ok (.invokevirtual 64, 3) := by decide +kernel
theorem dX7_pardons_6 : decode cX7_pardons 6 = .ok (.istore_n 2, 1) := by decide +kernel
theorem dX7_pardons_7 : decode cX7_pardons 7 = .ok (.aload_n 0, 1) := by decide +kernel
theorem dX7_pardons_8 : decode cX7_pardons 8 = .ok (.iload_n 1, 1) := by decide +kernel
theorem dX7_pardons_9 : decode cX7_pardons 9 = .ok (.iconst 5, 1) := by decide +kernel
theorem dX7_pardons_10 : decode cX7_pardons 10 = .ok (.iconst 0, 1) := by decide +kernel
theorem dX7_pardons_11 : decode cX7_pardons 11 = .ok (.invokevirtual 76, 3) := by decide +kernel
theorem dX7_pardons_14 : decode cX7_pardons 14 = .ok (.aload_n 0, 1) := by decide +kernel
theorem dX7_pardons_15 : decode cX7_pardons 15 = .ok (.getfield 7, 3) := by decide +kernel
theorem dX7_pardons_18 : decode cX7_pardons 18 = .ok (.bipush 8, 2) := by decide +kernel
theorem dX7_pardons_20 : decode cX7_pardons 20 = .ok (.dup2, 1) := by decide +kernel
theorem dX7_pardons_21 : decode cX7_pardons 21 = .ok (.iaload, 1) := by decide +kernel
theorem dX7_pardons_22 : decode cX7_pardons 22 = .ok (.iconst 1, 1) := by decide +kernel
theorem dX7_pardons_23 : decode cX7_pardons 23 = .ok (.iadd, 1) := by decide +kernel
theorem dX7_pardons_24 : decode cX7_pardons 24 = .ok (.iastore, 1) := by decide +kernel
theorem dX7_pardons_25 : decode cX7_pardons 25 = .ok (.iload_n 2, 1) := by decide +kernel
theorem dX7_pardons_26 : decode cX7_pardons 26 = .ok (.ireturn, 1) := by decide +kernel
theorem dX7_pardon_0 : decode cX7_pardon 0 = .ok (.aload_n 0, 1) := by decide +kernel
theorem dX7_pardon_1 : decode cX7_pardon 1 = .ok (.iload_n 1, 1) := by decide +kernel
theorem dX7_pardon_2 : decode cX7_pardon 2 = .ok (.invokevirtual 152, 3) := by decide +kernel
theorem dX7_pardon_5 : decode cX7_pardon 5 = .ok (.istore_n 2, 1) := by decide +kernel
theorem dX7_pardon_6 : decode cX7_pardon 6 = .ok (.iload_n 2, 1) := by decide +kernel
theorem dX7_pardon_7 : decode cX7_pardon 7 = .ok (.ifCond .eq 9, 3) := by decide +kernel
theorem dX7_pardon_10 : decode cX7_pardon 10 = .ok (.aload_n 0, 1) := by decide +kernel
theorem dX7_pardon_11 : decode cX7_pardon 11 = .ok (.iload_n 2, 1) := by decide +kernel
theorem dX7_pardon_12 : decode cX7_pardon 12 = .ok (.invokevirtual 87, 3) := by decide +kernel
theorem dX7_pardon_15 : decode cX7_pardon 15 = .ok (.ireturn, 1) := by decide +kernel
theorem dX7_pardon_16 : decode cX7_pardon 16 = .ok (.aload_n 0, 1) := by decide +kernel
theorem dX7_pardon_17 : decode cX7_pardon 17 = .ok (.invokevirtual 90, 3) := by decide +kernel
theorem dX7_pardon_20 : decode cX7_pardon 20 = .ok (.aload_n 0, 1) := by decide +kernel
theorem dX7_pardon_21 : decode cX7_pardon 21 = .ok (.iload_n 1, 1) := by decide +kernel
theorem dX7_pardon_22 : decode cX7_pardon 22 = .ok (.invokevirtual 155, 3) := by decide +kernel
theorem dX7_pardon_25 : decode cX7_pardon 25 = .ok (.ireturn, 1) := by decide +kernel
theorem dX7_comesIn_0 : decode cX7_comesIn 0 = .ok (.iload_n 1, 1) := by decide +kernel
theorem dX7_comesIn_1 : decode cX7_comesIn 1 = .ok (.sipush 9999, 3) := by decide +kernel
theorem dX7_comesIn_4 : decode cX7_comesIn 4 = .ok (.aload_n 0, 1) := by decide +kernel
theorem dX7_comesIn_5 : decode cX7_comesIn 5 = .ok (.getfield 7, 3) := by decide +kernel
theorem dX7_comesIn_8 : decode cX7_comesIn 8 = .ok (.iconst 3, 1) := by decide +kernel
theorem dX7_comesIn_9 : decode cX7_comesIn 9 = .ok (.iaload, 1) := by decide +kernel
theorem dX7_comesIn_10 : decode cX7_comesIn 10 = .ok (.isub, 1) := by decide +kernel
theorem dX7_comesIn_11 : decode cX7_comesIn 11 = .ok (.invokestatic 158, 3) := by decide +kernel
theorem dX7_comesIn_14 : decode cX7_comesIn 14 = .ok (.istore_n 2, 1) := by decide +kernel
theorem dX7_comesIn_15 : decode cX7_comesIn 15 = .ok (.aload_n 0, 1) := by decide +kernel
theorem dX7_comesIn_16 : decode cX7_comesIn 16 = .ok (.getfield 7, 3) := by decide +kernel
theorem dX7_comesIn_19 : decode cX7_comesIn 19 = .ok (.iconst 3, 1) := by decide +kernel
theorem dX7_comesIn_20 : decode cX7_comesIn 20 = .ok (.dup2, 1) := by decide +kernel
theorem dX7_comesIn_21 : decode cX7_comesIn 21 = .ok (.iaload, 1) := by decide +kernel
theorem dX7_comesIn_22 : decode cX7_comesIn 22 = .ok (.iload_n 2, 1) := by decide +kernel
theorem dX7_comesIn_23 : decode cX7_comesIn 23 = .ok (.iadd, 1) := by decide +kernel
theorem dX7_comesIn_24 : decode cX7_comesIn 24 = .ok (.iastore, 1) := by decide +kernel
theorem dX7_comesIn_25 : decode cX7_comesIn 25 = .ok (.aload_n 0, 1) := by decide +kernel
theorem dX7_comesIn_26 : decode cX7_comesIn 26 = .ok (.getfield 7, 3) := by decide +kernel
theorem dX7_comesIn_29 : decode cX7_comesIn 29 = .ok (.iconst 4, 1) := by decide +kernel
theorem dX7_comesIn_30 : decode cX7_comesIn 30 = .ok (.dup2, 1) := by decide +kernel
theorem dX7_comesIn_31 : decode cX7_comesIn 31 = .ok (.iaload, 1) := by decide +kernel
theorem dX7_comesIn_32 : decode cX7_comesIn 32 = .ok (.iload_n 2, 1) := by decide +kernel
theorem dX7_comesIn_33 : decode cX7_comesIn 33 = .ok (.iadd, 1) := by decide +kernel
theorem dX7_comesIn_34 : decode cX7_comesIn 34 = .ok (.iastore, 1) := by decide +kernel
theorem dX7_comesIn_35 : decode cX7_comesIn 35 = .ok (.return_, 1) := by decide +kernel
theorem dX7_puts_0 : decode cX7_puts 0 = .ok (.aload_n 0, 1) := by decide +kernel
theorem dX7_puts_1 : decode cX7_puts 1 = .ok (.iload_n 1, 1) := by decide +kernel
theorem dX7_puts_2 : decode cX7_puts 2 = .ok (.invokevirtual 161, 3) := by decide +kernel
theorem dX7_puts_5 : decode cX7_puts 5 = .ok (.aload_n 0, 1) := by decide +kernel
theorem dX7_puts_6 : decode cX7_puts 6 = .ok (.getfield 7, 3) := by decide +kernel
theorem dX7_puts_9 : decode cX7_puts 9 = .ok (.iconst 3, 1) := by decide +kernel
theorem dX7_puts_10 : decode cX7_puts 10 = .ok (.iaload, 1) := by decide +kernel
theorem dX7_puts_11 : decode cX7_puts 11 = .ok (.ireturn, 1) := by decide +kernel
theorem dX7_gift_0 : decode cX7_gift 0 = .ok (.iload_n 1, 1) := by decide +kernel
theorem dX7_gift_1 : decode cX7_gift 1 = .ok (.iconst 1, 1) := by decide +kernel
theorem dX7_gift_2 : decode cX7_gift 2 = .ok (.sipush 500, 3) := by decide +kernel
theorem dX7_gift_5 : decode cX7_gift 5 = .ok (.invokestatic 60, 3) := by decide +kernel
theorem dX7_gift_8 : decode cX7_gift 8 = .ok (.ifCond .ne 6, 3) := by decide +kernel
theorem dX7_gift_11 : decode cX7_gift 11 = .ok (.bipush (-12), 2) := by decide +kernel
theorem dX7_gift_13 : decode cX7_gift 13 = .ok (.ireturn, 1) := by decide +kernel
theorem dX7_gift_14 : decode cX7_gift 14 = .ok (.aload_n 0, 1) := by decide +kernel
theorem dX7_gift_15 : decode cX7_gift 15 = .ok (.invokevirtual 90, 3) := by decide +kernel
theorem dX7_gift_18 : decode cX7_gift 18 = .ok (.aload_n 0, 1) := by decide +kernel
theorem dX7_gift_19 : decode cX7_gift 19 = .ok (.iload_n 1, 1) := by decide +kernel
theorem dX7_gift_20 : decode cX7_gift 20 = .ok (.invokevirtual 164, 3) := by decide +kernel
theorem dX7_gift_23 : decode cX7_gift 23 = .ok (.ireturn, 1) := by decide +kernel
theorem dX7_isEntitled_0 : decode cX7_isEntitled 0 = .ok (.aload_n 0, 1) := by decide +kernel
theorem dX7_isEntitled_1 : decode cX7_isEntitled 1 = .ok (.iload_n 1, 1) := by decide +kernel
theorem dX7_isEntitled_2 : decode cX7_isEntitled 2 = .ok (.iconst 1, 1) := by decide +kernel
theorem dX7_isEntitled_3 : decode cX7_isEntitled 3 = .ok (.invokevirtual 68, 3) := by decide +kernel
theorem dX7_isEntitled_6 : decode cX7_isEntitled 6 = .ok (.ifCond .eq 16, 3) := by decide +kernel
theorem dX7_isEntitled_9 : decode cX7_isEntitled 9 = .ok (.aload_n 0, 1) := by decide +kernel
theorem dX7_isEntitled_10 : decode cX7_isEntitled 10 = .ok (.iload_n 1, 1) := by decide +kernel
theorem dX7_isEntitled_11 : decode cX7_isEntitled 11 = .ok (.iconst 5, 1) := by decide +kernel
theorem dX7_isEntitled_12 : decode cX7_isEntitled 12 = .ok (.invokevirtual 64, 3) := by decide +kernel
theorem dX7_isEntitled_15 : decode cX7_isEntitled 15 = .ok (.ifCond .ne 7, 3) := by decide +kernel
theorem dX7_isEntitled_18 : decode cX7_isEntitled 18 = .ok (.iconst 1, 1) := by decide +kernel
theorem dX7_isEntitled_19 : decode cX7_isEntitled 19 = .ok (.goto 4, 3) := by decide +kernel
theorem dX7_isEntitled_22 : decode cX7_isEntitled 22 = .ok (.iconst 0, 1) := by decide +kernel
theorem dX7_isEntitled_23 : decode cX7_isEntitled 23 = .ok (.ireturn, 1) := by decide +kernel
theorem dX7_entitledMany_0 : decode cX7_entitledMany 0 = .ok (.iconst 0, 1) := by decide +kernel
theorem dX7_entitledMany_1 : decode cX7_entitledMany 1 = .ok (.istore_n 1, 1) := by decide +kernel
theorem dX7_entitledMany_2 : decode cX7_entitledMany 2 = .ok (.iconst 0, 1) := by decide +kernel
theorem dX7_entitledMany_3 : decode cX7_entitledMany 3 = .ok (.istore_n 2, 1) := by decide +kernel
theorem dX7_entitledMany_4 : decode cX7_entitledMany 4 = .ok (.iload_n 2, 1) := by decide +kernel
theorem dX7_entitledMany_5 : decode cX7_entitledMany 5 = .ok (.aload_n 0, 1) := by decide +kernel
theorem dX7_entitledMany_6 : decode cX7_entitledMany 6 = .ok (.getfield 7, 3) := by decide +kernel
theorem dX7_entitledMany_9 : decode cX7_entitledMany 9 = .ok (.iconst 2, 1) := by decide +kernel
theorem dX7_entitledMany_10 : decode cX7_entitledMany 10 = .ok (.iaload, 1) := by decide +kernel
theorem dX7_entitledMany_11 : decode cX7_entitledMany 11 = .ok (.if_icmp .ge 25, 3) := by decide +kernel
theorem dX7_entitledMany_14 : decode cX7_entitledMany 14 = .ok (.iload_n 1, 1) := by decide +kernel
theorem dX7_entitledMany_15 : decode cX7_entitledMany 15 = .ok (.aload_n 0, 1) := by decide +kernel
theorem dX7_entitledMany_16 : decode cX7_entitledMany 16 = .ok (.iload_n 2, 1) := by decide +kernel
theorem dX7_entitledMany_17 : decode cX7_entitledMany 17 = .ok (.invokevirtual 167, 3) := by decide +kernel
theorem dX7_entitledMany_20 : decode cX7_entitledMany 20 = .ok (.ifCond .eq 7, 3) := by decide +kernel
theorem dX7_entitledMany_23 : decode cX7_entitledMany 23 = .ok (.iconst 1, 1) := by decide +kernel
theorem dX7_entitledMany_24 : decode cX7_entitledMany 24 = .ok (.goto 4, 3) := by decide +kernel
theorem dX7_entitledMany_27 : decode cX7_entitledMany 27 = .ok (.iconst 0, 1) := by decide +kernel
theorem dX7_entitledMany_28 : decode cX7_entitledMany 28 = .ok (.iadd, 1) := by decide +kernel
theorem dX7_entitledMany_29 : decode cX7_entitledMany 29 = .ok (.istore_n 1, 1) := by decide +kernel
theorem dX7_entitledMany_30 : decode cX7_entitledMany 30 = .ok (.iinc 2 1, 3) := by decide +kernel
theorem dX7_entitledMany_33 : decode cX7_entitledMany 33 = .ok (.goto (-29), 3) := by decide +kernel
theorem dX7_entitledMany_36 : decode cX7_entitledMany 36 = .ok (.iload_n 1, 1) := by decide +kernel
theorem dX7_entitledMany_37 : decode cX7_entitledMany 37 = .ok (.ireturn, 1) := by decide +kernel
theorem dX7_feastComes_0 : decode cX7_feastComes 0 = .ok (.aload_n 0, 1) := by decide +kernel
theorem dX7_feastComes_1 : decode cX7_feastComes 1 = .ok (.invokevirtual 170, 3) := by decide +kernel
theorem dX7_feastComes_4 : decode cX7_feastComes 4 = .ok (.istore_n 1, 1) := by decide +kernel
theorem dX7_feastComes_5 : decode cX7_feastComes 5 = .ok (.aload_n 0, 1) := by decide +kernel
theorem dX7_feastComes_6 : decode cX7_feastComes 6 = .ok (.getfield 7, 3) := by decide +kernel
theorem dX7_feastComes_9 : decode cX7_feastComes 9 = .ok (.bipush 12, 2) := by decide +kernel
theorem dX7_feastComes_11 : decode cX7_feastComes 11 = .ok (.aload_n 0, 1) := by decide +kernel
theorem dX7_feastComes_12 : decode cX7_feastComes 12 = .ok (.getfield 7, 3) := by decide +kernel
theorem dX7_feastComes_15 : decode cX7_feastComes 15 = .ok (.iconst 1, 1) := by decide +kernel
theorem dX7_feastComes_16 : decode cX7_feastComes 16 = .ok (.iaload, 1) := by decide +kernel
theorem dX7_feastComes_17 : decode cX7_feastComes 17 = .ok (.iadd, 1) := by decide +kernel
theorem dX7_feastComes_18 : decode cX7_feastComes 18 = .ok (.iaload, 1) := by decide +kernel
theorem dX7_feastComes_19 : decode cX7_feastComes 19 = .ok (.istore_n 2, 1) := by decide +kernel
theorem dX7_feastComes_20 : decode cX7_feastComes 20 = .ok (.iload_n 1, 1) := by decide +kernel
theorem dX7_feastComes_21 : decode cX7_feastComes 21 = .ok (.ifCond .eq 7, 3) := by decide +kernel
theorem dX7_feastComes_24 : decode cX7_feastComes 24 = .ok (.iload_n 2, 1) := by decide +kernel
theorem dX7_feastComes_25 : decode cX7_feastComes 25 = .ok (.ifCond .ne 5, 3) := by decide +kernel
theorem dX7_feastComes_28 : decode cX7_feastComes 28 = .ok (.iconst 0, 1) := by decide +kernel
theorem dX7_feastComes_29 : decode cX7_feastComes 29 = .ok (.ireturn, 1) := by decide +kernel
theorem dX7_feastComes_30 : decode cX7_feastComes 30 = .ok (.iload_n 2, 1) := by decide +kernel
theorem dX7_feastComes_31 : decode cX7_feastComes 31 = .ok (.aload_n 0, 1) := by decide +kernel
theorem dX7_feastComes_32 : decode cX7_feastComes 32 = .ok (.getfield 7, 3) := by decide +kernel
theorem dX7_feastComes_35 : decode cX7_feastComes 35 = .ok (.iconst 3, 1) := by decide +kernel
theorem dX7_feastComes_36 : decode cX7_feastComes 36 = .ok (.iaload, 1) := by decide +kernel
theorem dX7_feastComes_37 : decode cX7_feastComes 37 = .ok (.iload_n 1, 1) := by decide +kernel
theorem dX7_feastComes_38 : decode cX7_feastComes 38 = .ok (.idiv, 1) := by decide +kernel
theorem dX7_feastComes_39 : decode cX7_feastComes 39 = .ok (.invokestatic 158, 3) := by decide +kernel
theorem dX7_feastComes_42 : decode cX7_feastComes 42 = .ok (.istore_n 3, 1) := by decide +kernel
theorem dX7_feastComes_43 : decode cX7_feastComes 43 = .ok (.iconst 0, 1) := by decide +kernel
theorem dX7_feastComes_44 : decode cX7_feastComes 44 = .ok (.istore 4, 2) := by decide +kernel
theorem dX7_feastComes_46 : decode cX7_feastComes 46 = .ok (.iload 4, 2) := by decide +kernel
theorem dX7_feastComes_48 : decode cX7_feastComes 48 = .ok (.aload_n 0, 1) := by decide +kernel
theorem dX7_feastComes_49 : decode cX7_feastComes 49 = .ok (.getfield 7, 3) := by decide +kernel
theorem dX7_feastComes_52 : decode cX7_feastComes 52 = .ok (.iconst 2, 1) := by decide +kernel
theorem dX7_feastComes_53 : decode cX7_feastComes 53 = .ok (.iaload, 1) := by decide +kernel
theorem dX7_feastComes_54 : decode cX7_feastComes 54 = .ok (.if_icmp .ge 36, 3) := by decide +kernel
theorem dX7_feastComes_57 : decode cX7_feastComes 57 = .ok (.aload_n 0, 1) := by decide +kernel
theorem dX7_feastComes_58 : decode cX7_feastComes 58 = .ok (.iload 4, 2) := by decide +kernel
theorem dX7_feastComes_60 : decode cX7_feastComes 60 = .ok (.invokevirtual 167, 3) := by decide +kernel
theorem dX7_feastComes_63 : decode cX7_feastComes 63 = .ok (.ifCond .eq 21, 3) := by decide +kernel
theorem dX7_feastComes_66 : decode cX7_feastComes 66 = .ok (.aload_n 0, 1) := by decide +kernel
theorem dX7_feastComes_67 : decode cX7_feastComes 67 = .ok (.iload 4, 2) := by decide +kernel
theorem dX7_feastComes_69 : decode cX7_feastComes 69 = .ok (.bipush 6, 2) := by decide +kernel
theorem dX7_feastComes_71 : decode cX7_feastComes 71 = .ok (.aload_n 0, 1) := by decide +kernel
theorem dX7_feastComes_72 : decode cX7_feastComes 72 = .ok (.iload 4, 2) := by decide +kernel
theorem dX7_feastComes_74 : decode cX7_feastComes 74 = .ok (.bipush 6, 2) := by decide +kernel
theorem dX7_feastComes_76 : decode cX7_feastComes 76 = .ok (.invokevirtual 64, 3) := by decide +kernel
theorem dX7_feastComes_79 : decode cX7_feastComes 79 = .ok (.iload_n 3, 1) := by decide +kernel
theorem dX7_feastComes_80 : decode cX7_feastComes 80 = .ok (.iadd, 1) := by decide +kernel
theorem dX7_feastComes_81 : decode cX7_feastComes 81 = .ok (.invokevirtual 76, 3) := by decide +kernel
theorem dX7_feastComes_84 : decode cX7_feastComes 84 = .ok (.iinc 4 1, 3) := by decide +kernel
theorem dX7_feastComes_87 : decode cX7_feastComes 87 = .ok (.goto (-41), 3) := by decide +kernel
theorem dX7_feastComes_90 : decode cX7_feastComes 90 = .ok (.aload_n 0, 1) := by decide +kernel
theorem dX7_feastComes_91 : decode cX7_feastComes 91 = .ok (.getfield 7, 3) := by decide +kernel
theorem dX7_feastComes_94 : decode cX7_feastComes 94 = .ok (.iconst 3, 1) := by decide +kernel
theorem dX7_feastComes_95 : decode cX7_feastComes 95 = .ok (.dup2, 1) := by decide +kernel
theorem dX7_feastComes_96 : decode cX7_feastComes 96 = .ok (.iaload, 1) := by decide +kernel
theorem dX7_feastComes_97 : decode cX7_feastComes 97 = .ok (.iload_n 3, 1) := by decide +kernel
theorem dX7_feastComes_98 : decode cX7_feastComes 98 = .ok (.iload_n 1, 1) := by decide +kernel
theorem dX7_feastComes_99 : decode cX7_feastComes 99 = .ok (.imul, 1) := by decide +kernel
theorem dX7_feastComes_100 : decode cX7_feastComes 100 = .ok (.isub, 1) := by decide +kernel
theorem dX7_feastComes_101 : decode cX7_feastComes 101 = .ok (.iastore, 1) := by decide +kernel
theorem dX7_feastComes_102 : decode cX7_feastComes 102 = .ok (.aload_n 0, 1) := by decide +kernel
theorem dX7_feastComes_103 : decode cX7_feastComes 103 = .ok (.getfield 7, 3) := by decide +kernel
theorem dX7_feastComes_106 : decode cX7_feastComes 106 = .ok (.iconst 5, 1) := by decide +kernel
theorem dX7_feastComes_107 : decode cX7_feastComes 107 = .ok (.dup2, 1) := by decide +kernel
theorem dX7_feastComes_108 : decode cX7_feastComes 108 = .ok (.iaload, 1) := by decide +kernel
theorem dX7_feastComes_109 : decode cX7_feastComes 109 = .ok (.iload_n 3, 1) := by decide +kernel
theorem dX7_feastComes_110 : decode cX7_feastComes 110 = .ok (.iload_n 1, 1) := by decide +kernel
theorem dX7_feastComes_111 : decode cX7_feastComes 111 = .ok (.imul, 1) := by decide +kernel
theorem dX7_feastComes_112 : decode cX7_feastComes 112 = .ok (.iadd, 1) := by decide +kernel
theorem dX7_feastComes_113 : decode cX7_feastComes 113 = .ok (.iastore, 1) := by decide +kernel
theorem dX7_feastComes_114 : decode cX7_feastComes 114 = .ok (.iload_n 3, 1) := by decide +kernel
theorem dX7_feastComes_115 : decode cX7_feastComes 115 = .ok (.iload_n 1, 1) := by decide +kernel
theorem dX7_feastComes_116 : decode cX7_feastComes 116 = .ok (.imul, 1) := by decide +kernel
theorem dX7_feastComes_117 : decode cX7_feastComes 117 = .ok (.ireturn, 1) := by decide +kernel
theorem dX7_isSeniorTo_0 : decode cX7_isSeniorTo 0 = .ok (.aload_n 0, 1) := by decide +kernel
theorem dX7_isSeniorTo_1 : decode cX7_isSeniorTo 1 = .ok (.iload_n 1, 1) := by decide +kernel
theorem dX7_isSeniorTo_2 : decode cX7_isSeniorTo 2 = .ok (.bipush 8, 2) := by decide +kernel
theorem dX7_isSeniorTo_4 : decode cX7_isSeniorTo 4 = .ok (.invokevirtual 64, 3) := by decide +kernel
theorem dX7_isSeniorTo_7 : decode cX7_isSeniorTo 7 = .ok (.aload_n 0, 1) := by decide +kernel
theorem dX7_isSeniorTo_8 : decode cX7_isSeniorTo 8 = .ok (.iload_n 2, 1) := by decide +kernel
theorem dX7_isSeniorTo_9 : decode cX7_isSeniorTo 9 = .ok (.bipush 8, 2) := by decide +kernel
theorem dX7_isSeniorTo_11 : decode cX7_isSeniorTo 11 = .ok (.invokevirtual 64, 3) := by decide +kernel
theorem dX7_isSeniorTo_14 : decode cX7_isSeniorTo 14 = .ok (.if_icmp .ge 7, 3) := by decide +kernel
theorem dX7_isSeniorTo_17 : decode cX7_isSeniorTo 17 = .ok (.iconst 1, 1) := by decide +kernel
theorem dX7_isSeniorTo_18 : decode cX7_isSeniorTo 18 = .ok (.goto 4, 3) := by decide +kernel
theorem dX7_isSeniorTo_21 : decode cX7_isSeniorTo 21 = .ok (.iconst 0, 1) := by decide +kernel
theorem dX7_isSeniorTo_22 : decode cX7_isSeniorTo 22 = .ok (.ireturn, 1) := by decide +kernel
theorem dX7_isShabbier_0 : decode cX7_isShabbier 0 = .ok (.aload_n 0, 1) := by decide +kernel
theorem dX7_isShabbier_1 : decode cX7_isShabbier 1 = .ok (.iload_n 1, 1) := by decide +kernel
theorem dX7_isShabbier_2 : decode cX7_isShabbier 2 = .ok (.iconst 4, 1) := by decide +kernel
theorem dX7_isShabbier_3 : decode cX7_isShabbier 3 = .ok (.invokevirtual 64, 3) := by decide +kernel
theorem dX7_isShabbier_6 : decode cX7_isShabbier 6 = .ok (.aload_n 0, 1) := by decide +kernel
theorem dX7_isShabbier_7 : decode cX7_isShabbier 7 = .ok (.iload_n 2, 1) := by decide +kernel
theorem dX7_isShabbier_8 : decode cX7_isShabbier 8 = .ok (.iconst 4, 1) := by decide +kernel
theorem dX7_isShabbier_9 : decode cX7_isShabbier 9 = .ok (.invokevirtual 64, 3) := by decide +kernel
theorem dX7_isShabbier_12 : decode cX7_isShabbier 12 = .ok (.if_icmp .eq 26, 3) := by decide +kernel
theorem dX7_isShabbier_15 : decode cX7_isShabbier 15 = .ok (.aload_n 0, 1) := by decide +kernel
theorem dX7_isShabbier_16 : decode cX7_isShabbier 16 = .ok (.iload_n 1, 1) := by decide +kernel
theorem dX7_isShabbier_17 : decode cX7_isShabbier 17 = .ok (.iconst 4, 1) := by decide +kernel
theorem dX7_isShabbier_18 : decode cX7_isShabbier 18 = .ok (.invokevirtual 64, 3) := by decide +kernel
theorem dX7_isShabbier_21 : decode cX7_isShabbier 21 = .ok (.aload_n 0, 1) := by decide +kernel
theorem dX7_isShabbier_22 : decode cX7_isShabbier 22 = .ok (.iload_n 2, 1) := by decide +kernel
theorem dX7_isShabbier_23 : decode cX7_isShabbier 23 = .ok (.iconst 4, 1) := by decide +kernel
theorem dX7_isShabbier_24 : decode cX7_isShabbier 24 = .ok (.invokevirtual 64, 3) := by decide +kernel
theorem dX7_isShabbier_27 : decode cX7_isShabbier 27 = .ok (.if_icmp .le 7, 3) := by decide +kernel
theorem dX7_isShabbier_30 : decode cX7_isShabbier 30 = .ok (.iconst 1, 1) := by decide +kernel
theorem dX7_isShabbier_31 : decode cX7_isShabbier 31 = .ok (.goto 13, 3) := by decide +kernel
theorem dX7_isShabbier_34 : decode cX7_isShabbier 34 = .ok (.iconst 0, 1) := by decide +kernel
theorem dX7_isShabbier_35 : decode cX7_isShabbier 35 = .ok (.goto 9, 3) := by decide +kernel
theorem dX7_isShabbier_38 : decode cX7_isShabbier 38 = .ok (.aload_n 0, 1) := by decide +kernel
theorem dX7_isShabbier_39 : decode cX7_isShabbier 39 = .ok (.iload_n 1, 1) := by decide +kernel
theorem dX7_isShabbier_40 : decode cX7_isShabbier 40 = .ok (.iload_n 2, 1) := by decide +kernel
theorem dX7_isShabbier_41 : decode cX7_isShabbier 41 = .ok (.invokevirtual 174, 3) := by decide +kernel
theorem dX7_isShabbier_44 : decode cX7_isShabbier 44 = .ok (.ireturn, 1) := by decide +kernel
theorem dX7_shabbyAt_0 : decode cX7_shabbyAt 0 = .ok (.iconst 0, 1) := by decide +kernel
theorem dX7_shabbyAt_1 : decode cX7_shabbyAt 1 = .ok (.istore_n 2, 1) := by decide +kernel
theorem dX7_shabbyAt_2 : decode cX7_shabbyAt 2 = .ok (.iload_n 2, 1) := by decide +kernel
theorem dX7_shabbyAt_3 : decode cX7_shabbyAt 3 = .ok (.aload_n 0, 1) := by decide +kernel
theorem dX7_shabbyAt_4 : decode cX7_shabbyAt 4 = .ok (.getfield 7, 3) := by decide +kernel
theorem dX7_shabbyAt_7 : decode cX7_shabbyAt 7 = .ok (.iconst 2, 1) := by decide +kernel
theorem dX7_shabbyAt_8 : decode cX7_shabbyAt 8 = .ok (.iaload, 1) := by decide +kernel
theorem dX7_shabbyAt_9 : decode cX7_shabbyAt 9 = .ok (.if_icmp .ge 78, 3) := by decide +kernel
theorem dX7_shabbyAt_12 : decode cX7_shabbyAt 12 = .ok (.aload_n 0, 1) := by decide +kernel
theorem dX7_shabbyAt_13 : decode cX7_shabbyAt 13 = .ok (.iload_n 2, 1) := by decide +kernel
theorem dX7_shabbyAt_14 : decode cX7_shabbyAt 14 = .ok (.iconst 1, 1) := by decide +kernel
theorem dX7_shabbyAt_15 : decode cX7_shabbyAt 15 = .ok (.invokevirtual 68, 3) := by decide +kernel
theorem dX7_shabbyAt_18 : decode cX7_shabbyAt 18 = .ok (.ifCond .ne 6, 3) := by decide +kernel
theorem dX7_shabbyAt_21 : decode cX7_shabbyAt 21 = .ok (.goto 60, 3) := by decide +kernel
theorem dX7_shabbyAt_24 : decode cX7_shabbyAt 24 = .ok (.iconst 0, 1) := by decide +kernel
theorem dX7_shabbyAt_25 : decode cX7_shabbyAt 25 = .ok (.istore_n 3, 1) := by decide +kernel
theorem dX7_shabbyAt_26 : decode cX7_shabbyAt 26 = .ok (.iconst 0, 1) := by decide +kernel
theorem dX7_shabbyAt_27 : decode cX7_shabbyAt 27 = .ok (.istore 4, 2) := by decide +kernel
theorem dX7_shabbyAt_29 : decode cX7_shabbyAt 29 = .ok (.iload 4, 2) := by decide +kernel
theorem dX7_shabbyAt_31 : decode cX7_shabbyAt 31 = .ok (.aload_n 0, 1) := by decide +kernel
theorem dX7_shabbyAt_32 : decode cX7_shabbyAt 32 = .ok (.getfield 7, 3) := by decide +kernel
theorem dX7_shabbyAt_35 : decode cX7_shabbyAt 35 = .ok (.iconst 2, 1) := by decide +kernel
theorem dX7_shabbyAt_36 : decode cX7_shabbyAt 36 = .ok (.iaload, 1) := by decide +kernel
theorem dX7_shabbyAt_37 : decode cX7_shabbyAt 37 = .ok (.if_icmp .ge 37, 3) := by decide +kernel
theorem dX7_shabbyAt_40 : decode cX7_shabbyAt 40 = .ok (.iload_n 3, 1) := by decide +kernel
theorem dX7_shabbyAt_41 : decode cX7_shabbyAt 41 = .ok (.aload_n 0, 1) := by decide +kernel
theorem dX7_shabbyAt_42 : decode cX7_shabbyAt 42 = .ok (.iload 4, 2) := by decide +kernel
theorem dX7_shabbyAt_44 : decode cX7_shabbyAt 44 = .ok (.iconst 1, 1) := by decide +kernel
theorem dX7_shabbyAt_45 : decode cX7_shabbyAt 45 = .ok (.invokevirtual 68, 3) := by decide +kernel
theorem dX7_shabbyAt_48 : decode cX7_shabbyAt 48 = .ok (.ifCond .eq 17, 3) := by decide +kernel
theorem dX7_shabbyAt_51 : decode cX7_shabbyAt 51 = .ok (.aload_n 0, 1) := by decide +kernel
theorem dX7_shabbyAt_52 : decode cX7_shabbyAt 52 = .ok (.iload 4, 2) := by decide +kernel
theorem dX7_shabbyAt_54 : decode cX7_shabbyAt 54 = .ok (.iload_n 2, 1) := by decide +kernel
theorem dX7_shabbyAt_55 : decode cX7_shabbyAt 55 = .ok (.invokevirtual 177, 3) := by decide +kernel
theorem dX7_shabbyAt_58 : decode cX7_shabbyAt 58 = .ok (.ifCond .eq 7, 3) := by decide +kernel
theorem dX7_shabbyAt_61 : decode cX7_shabbyAt 61 = .ok (.iconst 1, 1) := by decide +kernel
theorem dX7_shabbyAt_62 : decode cX7_shabbyAt 62 = .ok (.goto 4, 3) := by decide +kernel
theorem dX7_shabbyAt_65 : decode cX7_shabbyAt 65 = .ok (.iconst 0, 1) := by decide +kernel
theorem dX7_shabbyAt_66 : decode cX7_shabbyAt 66 = .ok (.iadd, 1) := by decide +kernel
theorem dX7_shabbyAt_67 : decode cX7_shabbyAt 67 = .ok (.istore_n 3, 1) := by decide +kernel
theorem dX7_shabbyAt_68 : decode cX7_shabbyAt 68 = .ok (.iinc 4 1, 3) := by decide +kernel
theorem dX7_shabbyAt_71 : decode cX7_shabbyAt 71 = .ok (.goto (-42), 3) := by decide +kernel
theorem dX7_shabbyAt_74 : decode cX7_shabbyAt 74 = .ok (.iload_n 3, 1) := by decide +kernel
theorem dX7_shabbyAt_75 : decode cX7_shabbyAt 75 = .ok (.iload_n 1, 1) := by decide +kernel
theorem dX7_shabbyAt_76 : decode cX7_shabbyAt 76 = .ok (.if_icmp .ne 5, 3) := by decide +kernel
theorem dX7_shabbyAt_79 : decode cX7_shabbyAt 79 = .ok (.iload_n 2, 1) := by decide +kernel
theorem dX7_shabbyAt_80 : decode cX7_shabbyAt 80 = .ok (.ireturn, 1) := by decide +kernel
theorem dX7_shabbyAt_81 : decode cX7_shabbyAt 81 = .ok (.iinc 2 1, 3) := by decide +kernel
theorem dX7_shabbyAt_84 : decode cX7_shabbyAt 84 = .ok (.goto (-82), 3) := by decide +kernel
theorem dX7_shabbyAt_87 : decode cX7_shabbyAt 87 = .ok (.bipush (-11), 2) := by decide +kernel
theorem dX7_shabbyAt_89 : decode cX7_shabbyAt 89 = .ok (.ireturn, 1) := by decide +kernel
theorem dX7_yearBegins_0 : decode cX7_yearBegins 0 = .ok (.aload_n 0, 1) := by decide +kernel
theorem dX7_yearBegins_1 : decode cX7_yearBegins 1 = .ok (.getfield 7, 3) := by decide +kernel
theorem dX7_yearBegins_4 : decode cX7_yearBegins 4 = .ok (.iconst 1, 1) := by decide +kernel
theorem dX7_yearBegins_5 : decode cX7_yearBegins 5 = .ok (.iconst 0, 1) := by decide +kernel
theorem dX7_yearBegins_6 : decode cX7_yearBegins 6 = .ok (.iastore, 1) := by decide +kernel
theorem dX7_yearBegins_7 : decode cX7_yearBegins 7 = .ok (.aload_n 0, 1) := by decide +kernel
theorem dX7_yearBegins_8 : decode cX7_yearBegins 8 = .ok (.getfield 7, 3) := by decide +kernel
theorem dX7_yearBegins_11 : decode cX7_yearBegins 11 = .ok (.iconst 0, 1) := by decide +kernel
theorem dX7_yearBegins_12 : decode cX7_yearBegins 12 = .ok (.dup2, 1) := by decide +kernel
theorem dX7_yearBegins_13 : decode cX7_yearBegins 13 = .ok (.iaload, 1) := by decide +kernel
theorem dX7_yearBegins_14 : decode cX7_yearBegins 14 = .ok (.iconst 1, 1) := by decide +kernel
theorem dX7_yearBegins_15 : decode cX7_yearBegins 15 = .ok (.iadd, 1) := by decide +kernel
theorem dX7_yearBegins_16 : decode cX7_yearBegins 16 = .ok (.iastore, 1) := by decide +kernel
theorem dX7_yearBegins_17 : decode cX7_yearBegins 17 = .ok (.aload_n 0, 1) := by decide +kernel
theorem dX7_yearBegins_18 : decode cX7_yearBegins 18 = .ok (.getfield 7, 3) := by decide +kernel
theorem dX7_yearBegins_21 : decode cX7_yearBegins 21 = .ok (.bipush 8, 2) := by decide +kernel
theorem dX7_yearBegins_23 : decode cX7_yearBegins 23 = .ok (.iconst 0, 1) := by decide +kernel
theorem dX7_yearBegins_24 : decode cX7_yearBegins 24 = .ok (.iastore, 1) := by decide +kernel
theorem dX7_yearBegins_25 : decode cX7_yearBegins 25 = .ok (.iconst 0, 1) := by decide +kernel
theorem dX7_yearBegins_26 : decode cX7_yearBegins 26 = .ok (.istore_n 1, 1) := by decide +kernel
theorem dX7_yearBegins_27 : decode cX7_yearBegins 27 = .ok (.iload_n 1, 1) := by decide +kernel
theorem dX7_yearBegins_28 : decode cX7_yearBegins 28 = .ok (.aload_n 0, 1) := by decide +kernel
theorem dX7_yearBegins_29 : decode cX7_yearBegins 29 = .ok (.getfield 7, 3) := by decide +kernel
theorem dX7_yearBegins_32 : decode cX7_yearBegins 32 = .ok (.iconst 2, 1) := by decide +kernel
theorem dX7_yearBegins_33 : decode cX7_yearBegins 33 = .ok (.iaload, 1) := by decide +kernel
theorem dX7_yearBegins_34 : decode cX7_yearBegins 34 = .ok (.if_icmp .ge 72, 3) := by decide +kernel
theorem dX7_yearBegins_37 : decode cX7_yearBegins 37 = .ok (.aload_n 0, 1) := by decide +kernel
theorem dX7_yearBegins_38 : decode cX7_yearBegins 38 = .ok (.iload_n 1, 1) := by decide +kernel
theorem dX7_yearBegins_39 : decode cX7_yearBegins 39 = .ok (.iconst 0, 1) := by decide +kernel
theorem dX7_yearBegins_40 : decode cX7_yearBegins 40 = .ok (.aload_n 0, 1) := by decide +kernel
theorem dX7_yearBegins_41 : decode cX7_yearBegins 41 = .ok (.iload_n 1, 1) := by decide +kernel
theorem dX7_yearBegins_42 : decode cX7_yearBegins 42 = .ok (.iconst 0, 1) := by decide +kernel
theorem dX7_yearBegins_43 : decode cX7_yearBegins 43 = .ok (.invokevirtual 64, 3) := by decide +kernel
theorem dX7_yearBegins_46 : decode cX7_yearBegins 46 = .ok (.aload_n 0, 1) := by decide +kernel
theorem dX7_yearBegins_47 : decode cX7_yearBegins 47 = .ok (.iload_n 1, 1) := by decide +kernel
theorem dX7_yearBegins_48 : decode cX7_yearBegins 48 = .ok (.iconst 0, 1) := by decide +kernel
theorem dX7_yearBegins_49 : decode cX7_yearBegins 49 = .ok (.invokevirtual 68, 3) := by decide +kernel
theorem dX7_yearBegins_52 : decode cX7_yearBegins 52 = .ok (.ifCond .ne 12, 3) := by decide +kernel
theorem dX7_yearBegins_55 : decode cX7_yearBegins 55 = .ok (.aload_n 0, 1) := by decide +kernel
theorem dX7_yearBegins_56 : decode cX7_yearBegins 56 = .ok (.iload_n 1, 1) := by decide +kernel
theorem dX7_yearBegins_57 : decode cX7_yearBegins 57 = .ok (.iconst 1, 1) := by decide +kernel
theorem dX7_yearBegins_58 : decode cX7_yearBegins 58 = .ok (.invokevirtual 68, 3) := by decide +kernel
theorem dX7_yearBegins_61 : decode cX7_yearBegins 61 = .ok (.ifCond .eq 7, 3) := by decide +kernel
theorem dX7_yearBegins_64 : decode cX7_yearBegins 64 = .ok (.iconst 1, 1) := by decide +kernel
theorem dX7_yearBegins_65 : decode cX7_yearBegins 65 = .ok (.goto 4, 3) := by decide +kernel
theorem dX7_yearBegins_68 : decode cX7_yearBegins 68 = .ok (.iconst 0, 1) := by decide +kernel
theorem dX7_yearBegins_69 : decode cX7_yearBegins 69 = .ok (.iadd, 1) := by decide +kernel
theorem dX7_yearBegins_70 : decode cX7_yearBegins 70 = .ok (.invokevirtual 76, 3) := by decide +kernel
theorem dX7_yearBegins_73 : decode cX7_yearBegins 73 = .ok (.aload_n 0, 1) := by decide +kernel
theorem dX7_yearBegins_74 : decode cX7_yearBegins 74 = .ok (.iload_n 1, 1) := by decide +kernel
theorem dX7_yearBegins_75 : decode cX7_yearBegins 75 = .ok (.iconst 4, 1) := by decide +kernel
theorem dX7_yearBegins_76 : decode cX7_yearBegins 76 = .ok (.aload_n 0, 1) := by decide +kernel
theorem dX7_yearBegins_77 : decode cX7_yearBegins 77 = .ok (.iload_n 1, 1) := by decide +kernel
theorem dX7_yearBegins_78 : decode cX7_yearBegins 78 = .ok (.iconst 4, 1) := by decide +kernel
theorem dX7_yearBegins_79 : decode cX7_yearBegins 79 = .ok (.invokevirtual 64, 3) := by decide +kernel
theorem dX7_yearBegins_82 : decode cX7_yearBegins 82 = .ok (.aload_n 0, 1) := by decide +kernel
theorem dX7_yearBegins_83 : decode cX7_yearBegins 83 = .ok (.iload_n 1, 1) := by decide +kernel
theorem dX7_yearBegins_84 : decode cX7_yearBegins 84 = .ok (.iconst 1, 1) := by decide +kernel
theorem dX7_yearBegins_85 : decode cX7_yearBegins 85 = .ok (.invokevirtual 68, 3) := by decide +kernel
theorem dX7_yearBegins_88 : decode cX7_yearBegins 88 = .ok (.ifCond .eq 7, 3) := by decide +kernel
theorem dX7_yearBegins_91 : decode cX7_yearBegins 91 = .ok (.iconst 1, 1) := by decide +kernel
theorem dX7_yearBegins_92 : decode cX7_yearBegins 92 = .ok (.goto 4, 3) := by decide +kernel
theorem dX7_yearBegins_95 : decode cX7_yearBegins 95 = .ok (.iconst 0, 1) := by decide +kernel
theorem dX7_yearBegins_96 : decode cX7_yearBegins 96 = .ok (.iadd, 1) := by decide +kernel
theorem dX7_yearBegins_97 : decode cX7_yearBegins 97 = .ok (.invokevirtual 76, 3) := by decide +kernel
theorem dX7_yearBegins_100 : decode cX7_yearBegins 100 = .ok (.iinc 1 1, 3) := by decide +kernel
theorem dX7_yearBegins_103 : decode cX7_yearBegins 103 = .ok (.goto (-76), 3) := by decide +kernel
theorem dX7_yearBegins_106 : decode cX7_yearBegins 106 = .ok (.aload_n 0, 1) := by decide +kernel
theorem dX7_yearBegins_107 : decode cX7_yearBegins 107 = .ok (.iconst 0, 1) := by decide +kernel
theorem dX7_yearBegins_108 : decode cX7_yearBegins 108 = .ok (.invokevirtual 180, 3) := by decide +kernel
theorem dX7_yearBegins_111 : decode cX7_yearBegins 111 = .ok (.istore_n 1, 1) := by decide +kernel
theorem dX7_yearBegins_112 : decode cX7_yearBegins 112 = .ok (.iload_n 1, 1) := by decide +kernel
theorem dX7_yearBegins_113 : decode cX7_yearBegins 113 = .ok (.ifCond .lt 74, 3) := by decide +kernel
theorem dX7_yearBegins_116 : decode cX7_yearBegins 116 = .ok (.aload_n 0, 1) := by decide +kernel
theorem dX7_yearBegins_117 : decode cX7_yearBegins 117 = .ok (.iload_n 1, 1) := by decide +kernel
theorem dX7_yearBegins_118 : decode cX7_yearBegins 118 = .ok (.iconst 4, 1) := by decide +kernel
theorem dX7_yearBegins_119 : decode cX7_yearBegins 119 = .ok (.invokevirtual 64, 3) := by decide +kernel
theorem dX7_yearBegins_122 : decode cX7_yearBegins 122 = .ok (.iconst 2, 1) := by decide +kernel
theorem dX7_yearBegins_123 : decode cX7_yearBegins 123 = .ok (.if_icmp .lt 64, 3) := by decide +kernel
theorem dX7_yearBegins_126 : decode cX7_yearBegins 126 = .ok (.aload_n 0, 1) := by decide +kernel
theorem dX7_yearBegins_127 : decode cX7_yearBegins 127 = .ok (.getfield 7, 3) := by decide +kernel
theorem dX7_yearBegins_130 : decode cX7_yearBegins 130 = .ok (.iconst 3, 1) := by decide +kernel
theorem dX7_yearBegins_131 : decode cX7_yearBegins 131 = .ok (.iaload, 1) := by decide +kernel
theorem dX7_yearBegins_132 : decode cX7_yearBegins 132 = .ok (.bipush 8, 2) := by decide +kernel
theorem dX7_yearBegins_134 : decode cX7_yearBegins 134 = .ok (.if_icmp .lt 53, 3) := by decide +kernel
theorem dX7_yearBegins_137 : decode cX7_yearBegins 137 = .ok (.aload_n 0, 1) := by decide +kernel
theorem dX7_yearBegins_138 : decode cX7_yearBegins 138 = .ok (.iload_n 1, 1) := by decide +kernel
theorem dX7_yearBegins_139 : decode cX7_yearBegins 139 = .ok (.iconst 4, 1) := by decide +kernel
theorem dX7_yearBegins_140 : decode cX7_yearBegins 140 = .ok (.iconst 0, 1) := by decide +kernel
theorem dX7_yearBegins_141 : decode cX7_yearBegins 141 = .ok (.invokevirtual 76, 3) := by decide +kernel
theorem dX7_yearBegins_144 : decode cX7_yearBegins 144 = .ok (.aload_n 0, 1) := by decide +kernel
theorem dX7_yearBegins_145 : decode cX7_yearBegins 145 = .ok (.getfield 7, 3) := by decide +kernel
theorem dX7_yearBegins_148 : decode cX7_yearBegins 148 = .ok (.iconst 3, 1) := by decide +kernel
theorem dX7_yearBegins_149 : decode cX7_yearBegins 149 = .ok (.dup2, 1) := by decide +kernel
theorem dX7_yearBegins_150 : decode cX7_yearBegins 150 = .ok (.iaload, 1) := by decide +kernel
theorem dX7_yearBegins_151 : decode cX7_yearBegins 151 = .ok (.bipush 8, 2) := by decide +kernel
theorem dX7_yearBegins_153 : decode cX7_yearBegins 153 = .ok (.isub, 1) := by decide +kernel
theorem dX7_yearBegins_154 : decode cX7_yearBegins 154 = .ok (.iastore, 1) := by decide +kernel
theorem dX7_yearBegins_155 : decode cX7_yearBegins 155 = .ok (.aload_n 0, 1) := by decide +kernel
theorem dX7_yearBegins_156 : decode cX7_yearBegins 156 = .ok (.getfield 7, 3) := by decide +kernel
theorem dX7_yearBegins_159 : decode cX7_yearBegins 159 = .ok (.bipush 6, 2) := by decide +kernel
theorem dX7_yearBegins_161 : decode cX7_yearBegins 161 = .ok (.dup2, 1) := by decide +kernel
theorem dX7_yearBegins_162 : decode cX7_yearBegins 162 = .ok (.iaload, 1) := by decide +kernel
theorem dX7_yearBegins_163 : decode cX7_yearBegins 163 = .ok (.bipush 8, 2) := by decide +kernel
theorem dX7_yearBegins_165 : decode cX7_yearBegins 165 = .ok (.iadd, 1) := by decide +kernel
theorem dX7_yearBegins_166 : decode cX7_yearBegins 166 = .ok (.iastore, 1) := by decide +kernel
theorem dX7_yearBegins_167 : decode cX7_yearBegins 167 = .ok (.aload_n 0, 1) := by decide +kernel
theorem dX7_yearBegins_168 : decode cX7_yearBegins 168 = .ok (.getfield 7, 3) := by decide +kernel
theorem dX7_yearBegins_171 : decode cX7_yearBegins 171 = .ok (.bipush 7, 2) := by decide +kernel
theorem dX7_yearBegins_173 : decode cX7_yearBegins 173 = .ok (.dup2, 1) := by decide +kernel
theorem dX7_yearBegins_174 : decode cX7_yearBegins 174 = .ok (.iaload, 1) := by decide +kernel
theorem dX7_yearBegins_175 : decode cX7_yearBegins 175 = .ok (.iconst 1, 1) := by decide +kernel
theorem dX7_yearBegins_176 : decode cX7_yearBegins 176 = .ok (.iadd, 1) := by decide +kernel
theorem dX7_yearBegins_177 : decode cX7_yearBegins 177 = .ok (.iastore, 1) := by decide +kernel
theorem dX7_yearBegins_178 : decode cX7_yearBegins 178 = .ok (.aload_n 0, 1) := by decide +kernel
theorem dX7_yearBegins_179 : decode cX7_yearBegins 179 = .ok (.iconst 0, 1) := by decide +kernel
theorem dX7_yearBegins_180 : decode cX7_yearBegins 180 = .ok (.invokevirtual 180, 3) := by decide +kernel
theorem dX7_yearBegins_183 : decode cX7_yearBegins 183 = .ok (.istore_n 1, 1) := by decide +kernel
theorem dX7_yearBegins_184 : decode cX7_yearBegins 184 = .ok (.goto (-72), 3) := by decide +kernel
theorem dX7_yearBegins_187 : decode cX7_yearBegins 187 = .ok (.return_, 1) := by decide +kernel
theorem dX7_weekGoes_0 : decode cX7_weekGoes 0 = .ok (.aload_n 0, 1) := by decide +kernel
theorem dX7_weekGoes_1 : decode cX7_weekGoes 1 = .ok (.invokevirtual 183, 3) := by decide +kernel
theorem dX7_weekGoes_4 : decode cX7_weekGoes 4 = .ok (.istore_n 1, 1) := by decide +kernel
theorem dX7_weekGoes_5 : decode cX7_weekGoes 5 = .ok (.iconst 0, 1) := by decide +kernel
theorem dX7_weekGoes_6 : decode cX7_weekGoes 6 = .ok (.istore_n 2, 1) := by decide +kernel
theorem dX7_weekGoes_7 : decode cX7_weekGoes 7 = .ok (.iload_n 2, 1) := by decide +kernel
theorem dX7_weekGoes_8 : decode cX7_weekGoes 8 = .ok (.aload_n 0, 1) := by decide +kernel
theorem dX7_weekGoes_9 : decode cX7_weekGoes 9 = .ok (.getfield 7, 3) := by decide +kernel
theorem dX7_weekGoes_12 : decode cX7_weekGoes 12 = .ok (.iconst 2, 1) := by decide +kernel
theorem dX7_weekGoes_13 : decode cX7_weekGoes 13 = .ok (.iaload, 1) := by decide +kernel
theorem dX7_weekGoes_14 : decode cX7_weekGoes 14 = .ok (.if_icmp .ge 36, 3) := by decide +kernel
theorem dX7_weekGoes_17 : decode cX7_weekGoes 17 = .ok (.aload_n 0, 1) := by decide +kernel
theorem dX7_weekGoes_18 : decode cX7_weekGoes 18 = .ok (.iload_n 2, 1) := by decide +kernel
theorem dX7_weekGoes_19 : decode cX7_weekGoes 19 = .ok (.iconst 5, 1) := by decide +kernel
theorem dX7_weekGoes_20 : decode cX7_weekGoes 20 = .ok (.aload_n 0, 1) := by decide +kernel
theorem dX7_weekGoes_21 : decode cX7_weekGoes 21 = .ok (.iload_n 2, 1) := by decide +kernel
theorem dX7_weekGoes_22 : decode cX7_weekGoes 22 = .ok (.iconst 5, 1) := by decide +kernel
theorem dX7_weekGoes_23 : decode cX7_weekGoes 23 = .ok (.invokevirtual 64, 3) := by decide +kernel
theorem dX7_weekGoes_26 : decode cX7_weekGoes 26 = .ok (.ifCond .le 14, 3) := by decide +kernel
theorem dX7_weekGoes_29 : decode cX7_weekGoes 29 = .ok (.aload_n 0, 1) := by decide +kernel
theorem dX7_weekGoes_30 : decode cX7_weekGoes 30 = .ok (.iload_n 2, 1) := by decide +kernel
theorem dX7_weekGoes_31 : decode cX7_weekGoes 31 = .ok (.iconst 5, 1) := by decide +kernel
theorem dX7_weekGoes_32 : decode cX7_weekGoes 32 = .ok (.invokevirtual 64, 3) := by decide +kernel
theorem dX7_weekGoes_35 : decode cX7_weekGoes 35 = .ok (.iconst 1, 1) := by decide +kernel
theorem dX7_weekGoes_36 : decode cX7_weekGoes 36 = .ok (.isub, 1) := by decide +kernel
theorem dX7_weekGoes_37 : decode cX7_weekGoes 37 = .ok (.goto 4, 3) := by decide +kernel
theorem dX7_weekGoes_40 : decode cX7_weekGoes 40 = .ok (.iconst 0, 1) := by decide +kernel
theorem dX7_weekGoes_41 : decode cX7_weekGoes 41 = .ok (.invokevirtual 76, 3) := by decide +kernel
theorem dX7_weekGoes_44 : decode cX7_weekGoes 44 = .ok (.iinc 2 1, 3) := by decide +kernel
theorem dX7_weekGoes_47 : decode cX7_weekGoes 47 = .ok (.goto (-40), 3) := by decide +kernel
theorem dX7_weekGoes_50 : decode cX7_weekGoes 50 = .ok (.iconst 0, 1) := by decide +kernel
theorem dX7_weekGoes_51 : decode cX7_weekGoes 51 = .ok (.istore_n 2, 1) := by decide +kernel
theorem dX7_weekGoes_52 : decode cX7_weekGoes 52 = .ok (.iload_n 2, 1) := by decide +kernel
theorem dX7_weekGoes_53 : decode cX7_weekGoes 53 = .ok (.bipush 8, 2) := by decide +kernel
theorem dX7_weekGoes_55 : decode cX7_weekGoes 55 = .ok (.if_icmp .ge 22, 3) := by decide +kernel
theorem dX7_weekGoes_58 : decode cX7_weekGoes 58 = .ok (.aload_n 0, 1) := by decide +kernel
theorem dX7_weekGoes_59 : decode cX7_weekGoes 59 = .ok (.iload_n 2, 1) := by decide +kernel
theorem dX7_weekGoes_60 : decode cX7_weekGoes 60 = .ok (.invokevirtual 122, 3) := by decide +kernel
theorem dX7_weekGoes_63 : decode cX7_weekGoes 63 = .ok (.ifCond .ge 8, 3) := by decide +kernel
theorem dX7_weekGoes_66 : decode cX7_weekGoes 66 = .ok (.aload_n 0, 1) := by decide +kernel
theorem dX7_weekGoes_67 : decode cX7_weekGoes 67 = .ok (.iconst 2, 1) := by decide +kernel
theorem dX7_weekGoes_68 : decode cX7_weekGoes 68 = .ok (.invokevirtual 161, 3) := by decide +kernel
theorem dX7_weekGoes_71 : decode cX7_weekGoes 71 = .ok (.iinc 2 1, 3) := by decide +kernel
theorem dX7_weekGoes_74 : decode cX7_weekGoes 74 = .ok (.goto (-22), 3) := by decide +kernel
theorem dX7_weekGoes_77 : decode cX7_weekGoes 77 = .ok (.aload_n 0, 1) := by decide +kernel
theorem dX7_weekGoes_78 : decode cX7_weekGoes 78 = .ok (.getfield 7, 3) := by decide +kernel
theorem dX7_weekGoes_81 : decode cX7_weekGoes 81 = .ok (.iconst 1, 1) := by decide +kernel
theorem dX7_weekGoes_82 : decode cX7_weekGoes 82 = .ok (.dup2, 1) := by decide +kernel
theorem dX7_weekGoes_83 : decode cX7_weekGoes 83 = .ok (.iaload, 1) := by decide +kernel
theorem dX7_weekGoes_84 : decode cX7_weekGoes 84 = .ok (.iconst 1, 1) := by decide +kernel
theorem dX7_weekGoes_85 : decode cX7_weekGoes 85 = .ok (.iadd, 1) := by decide +kernel
theorem dX7_weekGoes_86 : decode cX7_weekGoes 86 = .ok (.iastore, 1) := by decide +kernel
theorem dX7_weekGoes_87 : decode cX7_weekGoes 87 = .ok (.aload_n 0, 1) := by decide +kernel
theorem dX7_weekGoes_88 : decode cX7_weekGoes 88 = .ok (.getfield 7, 3) := by decide +kernel
theorem dX7_weekGoes_91 : decode cX7_weekGoes 91 = .ok (.iconst 1, 1) := by decide +kernel
theorem dX7_weekGoes_92 : decode cX7_weekGoes 92 = .ok (.iaload, 1) := by decide +kernel
theorem dX7_weekGoes_93 : decode cX7_weekGoes 93 = .ok (.bipush 52, 2) := by decide +kernel
theorem dX7_weekGoes_95 : decode cX7_weekGoes 95 = .ok (.if_icmp .ne 7, 3) := by decide +kernel
theorem dX7_weekGoes_98 : decode cX7_weekGoes 98 = .ok (.aload_n 0, 1) := by decide +kernel
theorem dX7_weekGoes_99 : decode cX7_weekGoes 99 = .ok (.invokevirtual 186, 3) := by decide +kernel
theorem dX7_weekGoes_102 : decode cX7_weekGoes 102 = .ok (.iload_n 1, 1) := by decide +kernel
theorem dX7_weekGoes_103 : decode cX7_weekGoes 103 = .ok (.ireturn, 1) := by decide +kernel
theorem dX7_weeksGo_0 : decode cX7_weeksGo 0 = .ok (.iconst 0, 1) := by decide +kernel
theorem dX7_weeksGo_1 : decode cX7_weeksGo 1 = .ok (.istore_n 2, 1) := by decide +kernel
theorem dX7_weeksGo_2 : decode cX7_weeksGo 2 = .ok (.iconst 0, 1) := by decide +kernel
theorem dX7_weeksGo_3 : decode cX7_weeksGo 3 = .ok (.istore_n 3, 1) := by decide +kernel
theorem dX7_weeksGo_4 : decode cX7_weeksGo 4 = .ok (.iload_n 3, 1) := by decide +kernel
theorem dX7_weeksGo_5 : decode cX7_weeksGo 5 = .ok (.iload_n 1, 1) := by decide +kernel
theorem dX7_weeksGo_6 : decode cX7_weeksGo 6 = .ok (.if_icmp .ge 16, 3) := by decide +kernel
theorem dX7_weeksGo_9 : decode cX7_weeksGo 9 = .ok (.iload_n 2, 1) := by decide +kernel
theorem dX7_weeksGo_10 : decode cX7_weeksGo 10 = .ok (.aload_n 0, 1) := by decide +kernel
theorem dX7_weeksGo_11 : decode cX7_weeksGo 11 = .ok (.invokevirtual 189, 3) := by decide +kernel
theorem dX7_weeksGo_14 : decode cX7_weeksGo 14 = .ok (.iadd, 1) := by decide +kernel
theorem dX7_weeksGo_15 : decode cX7_weeksGo 15 = .ok (.istore_n 2, 1) := by decide +kernel
theorem dX7_weeksGo_16 : decode cX7_weeksGo 16 = .ok (.iinc 3 1, 3) := by decide +kernel
theorem dX7_weeksGo_19 : decode cX7_weeksGo 19 = .ok (.goto (-15), 3) := by decide +kernel
theorem dX7_weeksGo_22 : decode cX7_weeksGo 22 = .ok (.iload_n 2, 1) := by decide +kernel
theorem dX7_weeksGo_23 : decode cX7_weeksGo 23 = .ok (.ireturn, 1) := by decide +kernel
theorem dX7_weeks_0 : decode cX7_weeks 0 = .ok (.iload_n 1, 1) := by decide +kernel
theorem dX7_weeks_1 : decode cX7_weeks 1 = .ok (.iconst 1, 1) := by decide +kernel
theorem dX7_weeks_2 : decode cX7_weeks 2 = .ok (.bipush 60, 2) := by decide +kernel
theorem dX7_weeks_4 : decode cX7_weeks 4 = .ok (.invokestatic 60, 3) := by decide +kernel
theorem dX7_weeks_7 : decode cX7_weeks 7 = .ok (.ifCond .ne 6, 3) := by decide +kernel
theorem dX7_weeks_10 : decode cX7_weeks 10 = .ok (.bipush (-12), 2) := by decide +kernel
theorem dX7_weeks_12 : decode cX7_weeks 12 = .ok (.ireturn, 1) := by decide +kernel
theorem dX7_weeks_13 : decode cX7_weeks 13 = .ok (.aload_n 0, 1) := by decide +kernel
theorem dX7_weeks_14 : decode cX7_weeks 14 = .ok (.invokevirtual 90, 3) := by decide +kernel
theorem dX7_weeks_17 : decode cX7_weeks 17 = .ok (.aload_n 0, 1) := by decide +kernel
theorem dX7_weeks_18 : decode cX7_weeks 18 = .ok (.iload_n 1, 1) := by decide +kernel
theorem dX7_weeks_19 : decode cX7_weeks 19 = .ok (.invokevirtual 192, 3) := by decide +kernel
theorem dX7_weeks_22 : decode cX7_weeks 22 = .ok (.ireturn, 1) := by decide +kernel
theorem dX7_wouldGet_0 : decode cX7_wouldGet 0 = .ok (.aload_n 0, 1) := by decide +kernel
theorem dX7_wouldGet_1 : decode cX7_wouldGet 1 = .ok (.iload_n 1, 1) := by decide +kernel
theorem dX7_wouldGet_2 : decode cX7_wouldGet 2 = .ok (.invokevirtual 96, 3) := by decide +kernel
theorem dX7_wouldGet_5 : decode cX7_wouldGet 5 = .ok (.ifCond .ne 6, 3) := by decide +kernel
theorem dX7_wouldGet_8 : decode cX7_wouldGet 8 = .ok (.bipush (-11), 2) := by decide +kernel
theorem dX7_wouldGet_10 : decode cX7_wouldGet 10 = .ok (.ireturn, 1) := by decide +kernel
theorem dX7_wouldGet_11 : decode cX7_wouldGet 11 = .ok (.iload_n 2, 1) := by decide +kernel
theorem dX7_wouldGet_12 : decode cX7_wouldGet 12 = .ok (.iconst 0, 1) := by decide +kernel
theorem dX7_wouldGet_13 : decode cX7_wouldGet 13 = .ok (.bipush 60, 2) := by decide +kernel
theorem dX7_wouldGet_15 : decode cX7_wouldGet 15 = .ok (.invokestatic 60, 3) := by decide +kernel
theorem dX7_wouldGet_18 : decode cX7_wouldGet 18 = .ok (.ifCond .ne 6, 3) := by decide +kernel
theorem dX7_wouldGet_21 : decode cX7_wouldGet 21 = .ok (.bipush (-12), 2) := by decide +kernel
theorem dX7_wouldGet_23 : decode cX7_wouldGet 23 = .ok (.ireturn, 1) := by decide +kernel
theorem dX7_wouldGet_24 : decode cX7_wouldGet 24 = .ok (.aload_n 0, 1) := by decide +kernel
theorem dX7_wouldGet_25 : decode cX7_wouldGet 25 = .ok (.invokevirtual 54, 3) := by decide +kernel
theorem dX7_wouldGet_28 : decode cX7_wouldGet 28 = .ok (.aload_n 0, 1) := by decide +kernel
theorem dX7_wouldGet_29 : decode cX7_wouldGet 29 = .ok (.iload_n 1, 1) := by decide +kernel
theorem dX7_wouldGet_30 : decode cX7_wouldGet 30 = .ok (.bipush 6, 2) := by decide +kernel
theorem dX7_wouldGet_32 : decode cX7_wouldGet 32 = .ok (.invokevirtual 64, 3) := by decide +kernel
theorem dX7_wouldGet_35 : decode cX7_wouldGet 35 = .ok (.istore_n 3, 1) := by decide +kernel
theorem dX7_wouldGet_36 : decode cX7_wouldGet 36 = .ok (.aload_n 0, 1) := by decide +kernel
theorem dX7_wouldGet_37 : decode cX7_wouldGet 37 = .ok (.iload_n 2, 1) := by decide +kernel
theorem dX7_wouldGet_38 : decode cX7_wouldGet 38 = .ok (.invokevirtual 192, 3) := by decide +kernel
theorem dX7_wouldGet_41 : decode cX7_wouldGet 41 = .ok (.pop, 1) := by decide +kernel
theorem dX7_wouldGet_42 : decode cX7_wouldGet 42 = .ok (.aload_n 0, 1) := by decide +kernel
theorem dX7_wouldGet_43 : decode cX7_wouldGet 43 = .ok (.iload_n 1, 1) := by decide +kernel
theorem dX7_wouldGet_44 : decode cX7_wouldGet 44 = .ok (.bipush 6, 2) := by decide +kernel
theorem dX7_wouldGet_46 : decode cX7_wouldGet 46 = .ok (.invokevirtual 64, 3) := by decide +kernel
theorem dX7_wouldGet_49 : decode cX7_wouldGet 49 = .ok (.iload_n 3, 1) := by decide +kernel
theorem dX7_wouldGet_50 : decode cX7_wouldGet 50 = .ok (.isub, 1) := by decide +kernel
theorem dX7_wouldGet_51 : decode cX7_wouldGet 51 = .ok (.istore 4, 2) := by decide +kernel
theorem dX7_wouldGet_53 : decode cX7_wouldGet 53 = .ok (.aload_n 0, 1) := by decide +kernel
theorem dX7_wouldGet_54 : decode cX7_wouldGet 54 = .ok (.invokevirtual 195, 3) := by decide +kernel
theorem dX7_wouldGet_57 : decode cX7_wouldGet 57 = .ok (.iload 4, 2) := by decide +kernel
theorem dX7_wouldGet_59 : decode cX7_wouldGet 59 = .ok (.ireturn, 1) := by decide +kernel
theorem dX7_chestIn_0 : decode cX7_chestIn 0 = .ok (.iload_n 1, 1) := by decide +kernel
theorem dX7_chestIn_1 : decode cX7_chestIn 1 = .ok (.iconst 0, 1) := by decide +kernel
theorem dX7_chestIn_2 : decode cX7_chestIn 2 = .ok (.bipush 60, 2) := by decide +kernel
theorem dX7_chestIn_4 : decode cX7_chestIn 4 = .ok (.invokestatic 60, 3) := by decide +kernel
theorem dX7_chestIn_7 : decode cX7_chestIn 7 = .ok (.ifCond .ne 6, 3) := by decide +kernel
theorem dX7_chestIn_10 : decode cX7_chestIn 10 = .ok (.bipush (-12), 2) := by decide +kernel
theorem dX7_chestIn_12 : decode cX7_chestIn 12 = .ok (.ireturn, 1) := by decide +kernel
theorem dX7_chestIn_13 : decode cX7_chestIn 13 = .ok (.aload_n 0, 1) := by decide +kernel
theorem dX7_chestIn_14 : decode cX7_chestIn 14 = .ok (.invokevirtual 54, 3) := by decide +kernel
theorem dX7_chestIn_17 : decode cX7_chestIn 17 = .ok (.aload_n 0, 1) := by decide +kernel
theorem dX7_chestIn_18 : decode cX7_chestIn 18 = .ok (.iload_n 1, 1) := by decide +kernel
theorem dX7_chestIn_19 : decode cX7_chestIn 19 = .ok (.invokevirtual 192, 3) := by decide +kernel
theorem dX7_chestIn_22 : decode cX7_chestIn 22 = .ok (.pop, 1) := by decide +kernel
theorem dX7_chestIn_23 : decode cX7_chestIn 23 = .ok (.aload_n 0, 1) := by decide +kernel
theorem dX7_chestIn_24 : decode cX7_chestIn 24 = .ok (.getfield 7, 3) := by decide +kernel
theorem dX7_chestIn_27 : decode cX7_chestIn 27 = .ok (.iconst 3, 1) := by decide +kernel
theorem dX7_chestIn_28 : decode cX7_chestIn 28 = .ok (.iaload, 1) := by decide +kernel
theorem dX7_chestIn_29 : decode cX7_chestIn 29 = .ok (.istore_n 2, 1) := by decide +kernel
theorem dX7_chestIn_30 : decode cX7_chestIn 30 = .ok (.aload_n 0, 1) := by decide +kernel
theorem dX7_chestIn_31 : decode cX7_chestIn 31 = .ok (.invokevirtual 195, 3) := by decide +kernel
theorem dX7_chestIn_34 : decode cX7_chestIn 34 = .ok (.iload_n 2, 1) := by decide +kernel
theorem dX7_chestIn_35 : decode cX7_chestIn 35 = .ok (.ireturn, 1) := by decide +kernel
theorem dX7_placeInLine_0 : decode cX7_placeInLine 0 = .ok (.iconst 0, 1) := by decide +kernel
theorem dX7_placeInLine_1 : decode cX7_placeInLine 1 = .ok (.istore_n 2, 1) := by decide +kernel
theorem dX7_placeInLine_2 : decode cX7_placeInLine 2 = .ok (.iconst 0, 1) := by decide +kernel
theorem dX7_placeInLine_3 : decode cX7_placeInLine 3 = .ok (.istore_n 3, 1) := by decide +kernel
theorem dX7_placeInLine_4 : decode cX7_placeInLine 4 = .ok (.iload_n 3, 1) := by decide +kernel
theorem dX7_placeInLine_5 : decode cX7_placeInLine 5 = .ok (.aload_n 0, 1) := by decide +kernel
theorem dX7_placeInLine_6 : decode cX7_placeInLine 6 = .ok (.getfield 7, 3) := by decide +kernel
theorem dX7_placeInLine_9 : decode cX7_placeInLine 9 = .ok (.iconst 2, 1) := by decide +kernel
theorem dX7_placeInLine_10 : decode cX7_placeInLine 10 = .ok (.iaload, 1) := by decide +kernel
theorem dX7_placeInLine_11 : decode cX7_placeInLine 11 = .ok (.if_icmp .ge 43, 3) := by decide +kernel
theorem dX7_placeInLine_14 : decode cX7_placeInLine 14 = .ok (.iload_n 2, 1) := by decide +kernel
theorem dX7_placeInLine_15 : decode cX7_placeInLine 15 = .ok (.aload_n 0, 1) := by decide +kernel
theorem dX7_placeInLine_16 : decode cX7_placeInLine 16 = .ok (.iload_n 3, 1) := by decide +kernel
theorem dX7_placeInLine_17 : decode cX7_placeInLine 17 = .ok (.iconst 0, 1) := by decide +kernel
theorem dX7_placeInLine_18 : decode cX7_placeInLine 18 = .ok (.invokevirtual 68, 3) := by decide +kernel
theorem dX7_placeInLine_21 : decode cX7_placeInLine 21 = .ok (.ifCond .eq 24, 3) := by decide +kernel
theorem dX7_placeInLine_24 : decode cX7_placeInLine 24 = .ok (.aload_n 0, 1) := by decide +kernel
theorem dX7_placeInLine_25 : decode cX7_placeInLine 25 = .ok (.iload_n 3, 1) := by decide +kernel
theorem dX7_placeInLine_26 : decode cX7_placeInLine 26 = .ok (.bipush 8, 2) := by decide +kernel
theorem dX7_placeInLine_28 : decode cX7_placeInLine 28 = .ok (.invokevirtual 64, 3) := by decide +kernel
theorem dX7_placeInLine_31 : decode cX7_placeInLine 31 = .ok (.aload_n 0, 1) := by decide +kernel
theorem dX7_placeInLine_32 : decode cX7_placeInLine 32 = .ok (.iload_n 1, 1) := by decide +kernel
theorem dX7_placeInLine_33 : decode cX7_placeInLine 33 = .ok (.bipush 8, 2) := by decide +kernel
theorem dX7_placeInLine_35 : decode cX7_placeInLine 35 = .ok (.invokevirtual 64, 3) := by decide +kernel
theorem dX7_placeInLine_38 : decode cX7_placeInLine 38 = .ok (.if_icmp .ge 7, 3) := by decide +kernel
theorem dX7_placeInLine_41 : decode cX7_placeInLine 41 = .ok (.iconst 1, 1) := by decide +kernel
theorem dX7_placeInLine_42 : decode cX7_placeInLine 42 = .ok (.goto 4, 3) := by decide +kernel
theorem dX7_placeInLine_45 : decode cX7_placeInLine 45 = .ok (.iconst 0, 1) := by decide +kernel
theorem dX7_placeInLine_46 : decode cX7_placeInLine 46 = .ok (.iadd, 1) := by decide +kernel
theorem dX7_placeInLine_47 : decode cX7_placeInLine 47 = .ok (.istore_n 2, 1) := by decide +kernel
theorem dX7_placeInLine_48 : decode cX7_placeInLine 48 = .ok (.iinc 3 1, 3) := by decide +kernel
theorem dX7_placeInLine_51 : decode cX7_placeInLine 51 = .ok (.goto (-47), 3) := by decide +kernel
theorem dX7_placeInLine_54 : decode cX7_placeInLine 54 = .ok (.iload_n 2, 1) := by decide +kernel
theorem dX7_placeInLine_55 : decode cX7_placeInLine 55 = .ok (.ireturn, 1) := by decide +kernel
theorem dX7_brokeAll_0 : decode cX7_brokeAll 0 = .ok (.iconst 0, 1) := by decide +kernel
theorem dX7_brokeAll_1 : decode cX7_brokeAll 1 = .ok (.istore_n 2, 1) := by decide +kernel
theorem dX7_brokeAll_2 : decode cX7_brokeAll 2 = .ok (.iconst 0, 1) := by decide +kernel
theorem dX7_brokeAll_3 : decode cX7_brokeAll 3 = .ok (.istore_n 3, 1) := by decide +kernel
theorem dX7_brokeAll_4 : decode cX7_brokeAll 4 = .ok (.iload_n 3, 1) := by decide +kernel
theorem dX7_brokeAll_5 : decode cX7_brokeAll 5 = .ok (.iconst 5, 1) := by decide +kernel
theorem dX7_brokeAll_6 : decode cX7_brokeAll 6 = .ok (.if_icmp .ge 21, 3) := by decide +kernel
theorem dX7_brokeAll_9 : decode cX7_brokeAll 9 = .ok (.iload_n 2, 1) := by decide +kernel
theorem dX7_brokeAll_10 : decode cX7_brokeAll 10 = .ok (.aload_n 0, 1) := by decide +kernel
theorem dX7_brokeAll_11 : decode cX7_brokeAll 11 = .ok (.iload_n 1, 1) := by decide +kernel
theorem dX7_brokeAll_12 : decode cX7_brokeAll 12 = .ok (.bipush 9, 2) := by decide +kernel
theorem dX7_brokeAll_14 : decode cX7_brokeAll 14 = .ok (.iload_n 3, 1) := by decide +kernel
theorem dX7_brokeAll_15 : decode cX7_brokeAll 15 = .ok (.iadd, 1) := by decide +kernel
theorem dX7_brokeAll_16 : decode cX7_brokeAll 16 = .ok (.invokevirtual 64, 3) := by decide +kernel
theorem dX7_brokeAll_19 : decode cX7_brokeAll 19 = .ok (.iadd, 1) := by decide +kernel
theorem dX7_brokeAll_20 : decode cX7_brokeAll 20 = .ok (.istore_n 2, 1) := by decide +kernel
theorem dX7_brokeAll_21 : decode cX7_brokeAll 21 = .ok (.iinc 3 1, 3) := by decide +kernel
theorem dX7_brokeAll_24 : decode cX7_brokeAll 24 = .ok (.goto (-20), 3) := by decide +kernel
theorem dX7_brokeAll_27 : decode cX7_brokeAll 27 = .ok (.iload_n 2, 1) := by decide +kernel
theorem dX7_brokeAll_28 : decode cX7_brokeAll 28 = .ok (.ireturn, 1) := by decide +kernel
theorem dX7_brotherOf_0 : decode cX7_brotherOf 0 = .ok (.aload_n 0, 1) := by decide +kernel
theorem dX7_brotherOf_1 : decode cX7_brotherOf 1 = .ok (.iload_n 1, 1) := by decide +kernel
theorem dX7_brotherOf_2 : decode cX7_brotherOf 2 = .ok (.invokevirtual 96, 3) := by decide +kernel
theorem dX7_brotherOf_5 : decode cX7_brotherOf 5 = .ok (.ifCond .ne 6, 3) := by decide +kernel
theorem dX7_brotherOf_8 : decode cX7_brotherOf 8 = .ok (.bipush (-11), 2) := by decide +kernel
theorem dX7_brotherOf_10 : decode cX7_brotherOf 10 = .ok (.ireturn, 1) := by decide +kernel
theorem dX7_brotherOf_11 : decode cX7_brotherOf 11 = .ok (.iload_n 2, 1) := by decide +kernel
theorem dX7_brotherOf_12 : decode cX7_brotherOf 12 = .ok (.tableswitch 142 0 9 #[56, 56, 56, 63, 63, 84, 84, 91, 97, 122], 56) := by decide +kernel
theorem dX7_brotherOf_68 : decode cX7_brotherOf 68 = .ok (.aload_n 0, 1) := by decide +kernel
theorem dX7_brotherOf_69 : decode cX7_brotherOf 69 = .ok (.iload_n 1, 1) := by decide +kernel
theorem dX7_brotherOf_70 : decode cX7_brotherOf 70 = .ok (.iload_n 2, 1) := by decide +kernel
theorem dX7_brotherOf_71 : decode cX7_brotherOf 71 = .ok (.invokevirtual 64, 3) := by decide +kernel
theorem dX7_brotherOf_74 : decode cX7_brotherOf 74 = .ok (.ireturn, 1) := by decide +kernel
theorem dX7_brotherOf_75 : decode cX7_brotherOf 75 = .ok (.aload_n 0, 1) := by decide +kernel
theorem dX7_brotherOf_76 : decode cX7_brotherOf 76 = .ok (.iload_n 1, 1) := by decide +kernel
theorem dX7_brotherOf_77 : decode cX7_brotherOf 77 = .ok (.iconst 1, 1) := by decide +kernel
theorem dX7_brotherOf_78 : decode cX7_brotherOf 78 = .ok (.invokevirtual 68, 3) := by decide +kernel
theorem dX7_brotherOf_81 : decode cX7_brotherOf 81 = .ok (.ifCond .eq 12, 3) := by decide +kernel
theorem dX7_brotherOf_84 : decode cX7_brotherOf 84 = .ok (.aload_n 0, 1) := by decide +kernel
theorem dX7_brotherOf_85 : decode cX7_brotherOf 85 = .ok (.iload_n 1, 1) := by decide +kernel
theorem dX7_brotherOf_86 : decode cX7_brotherOf 86 = .ok (.iload_n 2, 1) := by decide +kernel
theorem dX7_brotherOf_87 : decode cX7_brotherOf 87 = .ok (.invokevirtual 64, 3) := by decide +kernel
theorem dX7_brotherOf_90 : decode cX7_brotherOf 90 = .ok (.goto 5, 3) := by decide +kernel
theorem dX7_brotherOf_93 : decode cX7_brotherOf 93 = .ok (.bipush (-15), 2) := by decide +kernel
theorem dX7_brotherOf_95 : decode cX7_brotherOf 95 = .ok (.ireturn, 1) := by decide +kernel
theorem dX7_brotherOf_96 : decode cX7_brotherOf 96 = .ok (.aload_n 0, 1) := by decide +kernel
theorem dX7_brotherOf_97 : decode cX7_brotherOf 97 = .ok (.iload_n 1, 1) := by decide +kernel
theorem dX7_brotherOf_98 : decode cX7_brotherOf 98 = .ok (.iload_n 2, 1) := by decide +kernel
theorem dX7_brotherOf_99 : decode cX7_brotherOf 99 = .ok (.invokevirtual 64, 3) := by decide +kernel
theorem dX7_brotherOf_102 : decode cX7_brotherOf 102 = .ok (.ireturn, 1) := by decide +kernel
theorem dX7_brotherOf_103 : decode cX7_brotherOf 103 = .ok (.aload_n 0, 1) := by decide +kernel
theorem dX7_brotherOf_104 : decode cX7_brotherOf 104 = .ok (.iload_n 1, 1) := by decide +kernel
theorem dX7_brotherOf_105 : decode cX7_brotherOf 105 = .ok (.invokevirtual 198, 3) := by decide +kernel
theorem dX7_brotherOf_108 : decode cX7_brotherOf 108 = .ok (.ireturn, 1) := by decide +kernel
theorem dX7_brotherOf_109 : decode cX7_brotherOf 109 = .ok (.aload_n 0, 1) := by decide +kernel
theorem dX7_brotherOf_110 : decode cX7_brotherOf 110 = .ok (.iload_n 1, 1) := by decide +kernel
theorem dX7_brotherOf_111 : decode cX7_brotherOf 111 = .ok (.bipush 7, 2) := by decide +kernel
theorem dX7_brotherOf_113 : decode cX7_brotherOf 113 = .ok (.invokevirtual 64, 3) := by decide +kernel
theorem dX7_brotherOf_116 : decode cX7_brotherOf 116 = .ok (.ifCond .ne 8, 3) := by decide +kernel
theorem dX7_brotherOf_119 : decode cX7_brotherOf 119 = .ok (.bipush (-15), 2) := by decide +kernel
theorem dX7_brotherOf_121 : decode cX7_brotherOf 121 = .ok (.goto 12, 3) := by decide +kernel
theorem dX7_brotherOf_124 : decode cX7_brotherOf 124 = .ok (.aload_n 0, 1) := by decide +kernel
theorem dX7_brotherOf_125 : decode cX7_brotherOf 125 = .ok (.iload_n 1, 1) := by decide +kernel
theorem dX7_brotherOf_126 : decode cX7_brotherOf 126 = .ok (.bipush 7, 2) := by decide +kernel
theorem dX7_brotherOf_128 : decode cX7_brotherOf 128 = .ok (.invokevirtual 64, 3) := by decide +kernel
theorem dX7_brotherOf_131 : decode cX7_brotherOf 131 = .ok (.iconst 1, 1) := by decide +kernel
theorem dX7_brotherOf_132 : decode cX7_brotherOf 132 = .ok (.isub, 1) := by decide +kernel
theorem dX7_brotherOf_133 : decode cX7_brotherOf 133 = .ok (.ireturn, 1) := by decide +kernel
theorem dX7_brotherOf_134 : decode cX7_brotherOf 134 = .ok (.aload_n 0, 1) := by decide +kernel
theorem dX7_brotherOf_135 : decode cX7_brotherOf 135 = .ok (.iload_n 1, 1) := by decide +kernel
theorem dX7_brotherOf_136 : decode cX7_brotherOf 136 = .ok (.iconst 0, 1) := by decide +kernel
theorem dX7_brotherOf_137 : decode cX7_brotherOf 137 = .ok (.invokevirtual 68, 3) := by decide +kernel
theorem dX7_brotherOf_140 : decode cX7_brotherOf 140 = .ok (.ifCond .eq 11, 3) := by decide +kernel
theorem dX7_brotherOf_143 : decode cX7_brotherOf 143 = .ok (.aload_n 0, 1) := by decide +kernel
theorem dX7_brotherOf_144 : decode cX7_brotherOf 144 = .ok (.iload_n 1, 1) := by decide +kernel
theorem dX7_brotherOf_145 : decode cX7_brotherOf 145 = .ok (.invokevirtual 201, 3) := by decide +kernel
theorem dX7_brotherOf_148 : decode cX7_brotherOf 148 = .ok (.goto 5, 3) := by decide +kernel
theorem dX7_brotherOf_151 : decode cX7_brotherOf 151 = .ok (.bipush (-15), 2) := by decide +kernel
theorem dX7_brotherOf_153 : decode cX7_brotherOf 153 = .ok (.ireturn, 1) := by decide +kernel
theorem dX7_brotherOf_154 : decode cX7_brotherOf 154 = .ok (.bipush (-12), 2) := by decide +kernel
theorem dX7_brotherOf_156 : decode cX7_brotherOf 156 = .ok (.ireturn, 1) := by decide +kernel
theorem dX7_broke_0 : decode cX7_broke 0 = .ok (.aload_n 0, 1) := by decide +kernel
theorem dX7_broke_1 : decode cX7_broke 1 = .ok (.iload_n 1, 1) := by decide +kernel
theorem dX7_broke_2 : decode cX7_broke 2 = .ok (.invokevirtual 96, 3) := by decide +kernel
theorem dX7_broke_5 : decode cX7_broke 5 = .ok (.ifCond .eq 24, 3) := by decide +kernel
theorem dX7_broke_8 : decode cX7_broke 8 = .ok (.iload_n 2, 1) := by decide +kernel
theorem dX7_broke_9 : decode cX7_broke 9 = .ok (.iconst 0, 1) := by decide +kernel
theorem dX7_broke_10 : decode cX7_broke 10 = .ok (.iconst 4, 1) := by decide +kernel
theorem dX7_broke_11 : decode cX7_broke 11 = .ok (.invokestatic 60, 3) := by decide +kernel
theorem dX7_broke_14 : decode cX7_broke 14 = .ok (.ifCond .eq 15, 3) := by decide +kernel
theorem dX7_broke_17 : decode cX7_broke 17 = .ok (.aload_n 0, 1) := by decide +kernel
theorem dX7_broke_18 : decode cX7_broke 18 = .ok (.iload_n 1, 1) := by decide +kernel
theorem dX7_broke_19 : decode cX7_broke 19 = .ok (.bipush 9, 2) := by decide +kernel
theorem dX7_broke_21 : decode cX7_broke 21 = .ok (.iload_n 2, 1) := by decide +kernel
theorem dX7_broke_22 : decode cX7_broke 22 = .ok (.iadd, 1) := by decide +kernel
theorem dX7_broke_23 : decode cX7_broke 23 = .ok (.invokevirtual 64, 3) := by decide +kernel
theorem dX7_broke_26 : decode cX7_broke 26 = .ok (.goto 5, 3) := by decide +kernel
theorem dX7_broke_29 : decode cX7_broke 29 = .ok (.bipush (-11), 2) := by decide +kernel
theorem dX7_broke_31 : decode cX7_broke 31 = .ok (.ireturn, 1) := by decide +kernel
theorem dX7_inCell_0 : decode cX7_inCell 0 = .ok (.iload_n 1, 1) := by decide +kernel
theorem dX7_inCell_1 : decode cX7_inCell 1 = .ok (.invokestatic 119, 3) := by decide +kernel
theorem dX7_inCell_4 : decode cX7_inCell 4 = .ok (.ifCond .eq 11, 3) := by decide +kernel
theorem dX7_inCell_7 : decode cX7_inCell 7 = .ok (.aload_n 0, 1) := by decide +kernel
theorem dX7_inCell_8 : decode cX7_inCell 8 = .ok (.iload_n 1, 1) := by decide +kernel
theorem dX7_inCell_9 : decode cX7_inCell 9 = .ok (.invokevirtual 122, 3) := by decide +kernel
theorem dX7_inCell_12 : decode cX7_inCell 12 = .ok (.goto 5, 3) := by decide +kernel
theorem dX7_inCell_15 : decode cX7_inCell 15 = .ok (.bipush (-11), 2) := by decide +kernel
theorem dX7_inCell_17 : decode cX7_inCell 17 = .ok (.ireturn, 1) := by decide +kernel
theorem dX7_entitled_0 : decode cX7_entitled 0 = .ok (.iconst 0, 1) := by decide +kernel
theorem dX7_entitled_1 : decode cX7_entitled 1 = .ok (.istore_n 1, 1) := by decide +kernel
theorem dX7_entitled_2 : decode cX7_entitled 2 = .ok (.iconst 0, 1) := by decide +kernel
theorem dX7_entitled_3 : decode cX7_entitled 3 = .ok (.istore_n 2, 1) := by decide +kernel
theorem dX7_entitled_4 : decode cX7_entitled 4 = .ok (.iload_n 2, 1) := by decide +kernel
theorem dX7_entitled_5 : decode cX7_entitled 5 = .ok (.aload_n 0, 1) := by decide +kernel
theorem dX7_entitled_6 : decode cX7_entitled 6 = .ok (.getfield 7, 3) := by decide +kernel
theorem dX7_entitled_9 : decode cX7_entitled 9 = .ok (.iconst 2, 1) := by decide +kernel
theorem dX7_entitled_10 : decode cX7_entitled 10 = .ok (.iaload, 1) := by decide +kernel
theorem dX7_entitled_11 : decode cX7_entitled 11 = .ok (.if_icmp .ge 27, 3) := by decide +kernel
theorem dX7_entitled_14 : decode cX7_entitled 14 = .ok (.iload_n 1, 1) := by decide +kernel
theorem dX7_entitled_15 : decode cX7_entitled 15 = .ok (.aload_n 0, 1) := by decide +kernel
theorem dX7_entitled_16 : decode cX7_entitled 16 = .ok (.iload_n 2, 1) := by decide +kernel
theorem dX7_entitled_17 : decode cX7_entitled 17 = .ok (.invokevirtual 167, 3) := by decide +kernel
theorem dX7_entitled_20 : decode cX7_entitled 20 = .ok (.ifCond .eq 9, 3) := by decide +kernel
theorem dX7_entitled_23 : decode cX7_entitled 23 = .ok (.iconst 1, 1) := by decide +kernel
theorem dX7_entitled_24 : decode cX7_entitled 24 = .ok (.iload_n 2, 1) := by decide +kernel
theorem dX7_entitled_25 : decode cX7_entitled 25 = .ok (.ishl, 1) := by decide +kernel
theorem dX7_entitled_26 : decode cX7_entitled 26 = .ok (.goto 4, 3) := by decide +kernel
theorem dX7_entitled_29 : decode cX7_entitled 29 = .ok (.iconst 0, 1) := by decide +kernel
theorem dX7_entitled_30 : decode cX7_entitled 30 = .ok (.ior, 1) := by decide +kernel
theorem dX7_entitled_31 : decode cX7_entitled 31 = .ok (.istore_n 1, 1) := by decide +kernel
theorem dX7_entitled_32 : decode cX7_entitled 32 = .ok (.iinc 2 1, 3) := by decide +kernel
theorem dX7_entitled_35 : decode cX7_entitled 35 = .ok (.goto (-31), 3) := by decide +kernel
theorem dX7_entitled_38 : decode cX7_entitled 38 = .ok (.iload_n 1, 1) := by decide +kernel
theorem dX7_entitled_39 : decode cX7_entitled 39 = .ok (.ireturn, 1) := by decide +kernel
theorem dX7_entitledAgain_0 : decode cX7_entitledAgain 0 = .ok (.iconst 0, 1) := by decide +kernel
theorem dX7_entitledAgain_1 : decode cX7_entitledAgain 1 = .ok (.istore_n 1, 1) := by decide +kernel
theorem dX7_entitledAgain_2 : decode cX7_entitledAgain 2 = .ok (.iconst 0, 1) := by decide +kernel
theorem dX7_entitledAgain_3 : decode cX7_entitledAgain 3 = .ok (.istore_n 2, 1) := by decide +kernel
theorem dX7_entitledAgain_4 : decode cX7_entitledAgain 4 = .ok (.iload_n 2, 1) := by decide +kernel
theorem dX7_entitledAgain_5 : decode cX7_entitledAgain 5 = .ok (.bipush 8, 2) := by decide +kernel
theorem dX7_entitledAgain_7 : decode cX7_entitledAgain 7 = .ok (.if_icmp .ge 38, 3) := by decide +kernel
theorem dX7_entitledAgain_10 : decode cX7_entitledAgain 10 = .ok (.aload_n 0, 1) := by decide +kernel
theorem dX7_entitledAgain_11 : decode cX7_entitledAgain 11 = .ok (.iload_n 2, 1) := by decide +kernel
theorem dX7_entitledAgain_12 : decode cX7_entitledAgain 12 = .ok (.invokevirtual 122, 3) := by decide +kernel
theorem dX7_entitledAgain_15 : decode cX7_entitledAgain 15 = .ok (.istore_n 3, 1) := by decide +kernel
theorem dX7_entitledAgain_16 : decode cX7_entitledAgain 16 = .ok (.iload_n 1, 1) := by decide +kernel
theorem dX7_entitledAgain_17 : decode cX7_entitledAgain 17 = .ok (.iload_n 3, 1) := by decide +kernel
theorem dX7_entitledAgain_18 : decode cX7_entitledAgain 18 = .ok (.ifCond .lt 18, 3) := by decide +kernel
theorem dX7_entitledAgain_21 : decode cX7_entitledAgain 21 = .ok (.aload_n 0, 1) := by decide +kernel
theorem dX7_entitledAgain_22 : decode cX7_entitledAgain 22 = .ok (.iload_n 3, 1) := by decide +kernel
theorem dX7_entitledAgain_23 : decode cX7_entitledAgain 23 = .ok (.iconst 5, 1) := by decide +kernel
theorem dX7_entitledAgain_24 : decode cX7_entitledAgain 24 = .ok (.invokevirtual 64, 3) := by decide +kernel
theorem dX7_entitledAgain_27 : decode cX7_entitledAgain 27 = .ok (.ifCond .ne 9, 3) := by decide +kernel
theorem dX7_entitledAgain_30 : decode cX7_entitledAgain 30 = .ok (.iconst 1, 1) := by decide +kernel
theorem dX7_entitledAgain_31 : decode cX7_entitledAgain 31 = .ok (.iload_n 3, 1) := by decide +kernel
theorem dX7_entitledAgain_32 : decode cX7_entitledAgain 32 = .ok (.ishl, 1) := by decide +kernel
theorem dX7_entitledAgain_33 : decode cX7_entitledAgain 33 = .ok (.goto 4, 3) := by decide +kernel
theorem dX7_entitledAgain_36 : decode cX7_entitledAgain 36 = .ok (.iconst 0, 1) := by decide +kernel
theorem dX7_entitledAgain_37 : decode cX7_entitledAgain 37 = .ok (.ior, 1) := by decide +kernel
theorem dX7_entitledAgain_38 : decode cX7_entitledAgain 38 = .ok (.istore_n 1, 1) := by decide +kernel
theorem dX7_entitledAgain_39 : decode cX7_entitledAgain 39 = .ok (.iinc 2 1, 3) := by decide +kernel
theorem dX7_entitledAgain_42 : decode cX7_entitledAgain 42 = .ok (.goto (-38), 3) := by decide +kernel
theorem dX7_entitledAgain_45 : decode cX7_entitledAgain 45 = .ok (.iload_n 1, 1) := by decide +kernel
theorem dX7_entitledAgain_46 : decode cX7_entitledAgain 46 = .ok (.ireturn, 1) := by decide +kernel
theorem dX7_voices_0 : decode cX7_voices 0 = .ok (.aload_n 0, 1) := by decide +kernel
theorem dX7_voices_1 : decode cX7_voices 1 = .ok (.iload_n 1, 1) := by decide +kernel
theorem dX7_voices_2 : decode cX7_voices 2 = .ok (.invokevirtual 96, 3) := by decide +kernel
theorem dX7_voices_5 : decode cX7_voices 5 = .ok (.ifCond .eq 11, 3) := by decide +kernel
theorem dX7_voices_8 : decode cX7_voices 8 = .ok (.aload_n 0, 1) := by decide +kernel
theorem dX7_voices_9 : decode cX7_voices 9 = .ok (.iload_n 1, 1) := by decide +kernel
theorem dX7_voices_10 : decode cX7_voices 10 = .ok (.invokevirtual 107, 3) := by decide +kernel
theorem dX7_voices_13 : decode cX7_voices 13 = .ok (.goto 5, 3) := by decide +kernel
theorem dX7_voices_16 : decode cX7_voices 16 = .ok (.bipush (-11), 2) := by decide +kernel
theorem dX7_voices_18 : decode cX7_voices 18 = .ok (.ireturn, 1) := by decide +kernel
theorem dX7_voicesAgain_0 : decode cX7_voicesAgain 0 = .ok (.aload_n 0, 1) := by decide +kernel
theorem dX7_voicesAgain_1 : decode cX7_voicesAgain 1 = .ok (.iload_n 1, 1) := by decide +kernel
theorem dX7_voicesAgain_2 : decode cX7_voicesAgain 2 = .ok (.invokevirtual 96, 3) := by decide +kernel
theorem dX7_voicesAgain_5 : decode cX7_voicesAgain 5 = .ok (.ifCond .ne 6, 3) := by decide +kernel
theorem dX7_voicesAgain_8 : decode cX7_voicesAgain 8 = .ok (.bipush (-11), 2) := by decide +kernel
theorem dX7_voicesAgain_10 : decode cX7_voicesAgain 10 = .ok (.ireturn, 1) := by decide +kernel
theorem dX7_voicesAgain_11 : decode cX7_voicesAgain 11 = .ok (.iconst 0, 1) := by decide +kernel
theorem dX7_voicesAgain_12 : decode cX7_voicesAgain 12 = .ok (.istore_n 2, 1) := by decide +kernel
theorem dX7_voicesAgain_13 : decode cX7_voicesAgain 13 = .ok (.iload_n 2, 1) := by decide +kernel
theorem dX7_voicesAgain_14 : decode cX7_voicesAgain 14 = .ok (.bipush 16, 2) := by decide +kernel
theorem dX7_voicesAgain_16 : decode cX7_voicesAgain 16 = .ok (.if_icmp .ge 16, 3) := by decide +kernel
theorem dX7_voicesAgain_19 : decode cX7_voicesAgain 19 = .ok (.aload_n 0, 1) := by decide +kernel
theorem dX7_voicesAgain_20 : decode cX7_voicesAgain 20 = .ok (.getfield 22, 3) := by decide +kernel
theorem dX7_voicesAgain_23 : decode cX7_voicesAgain 23 = .ok (.iload_n 2, 1) := by decide +kernel
theorem dX7_voicesAgain_24 : decode cX7_voicesAgain 24 = .ok (.iconst 0, 1) := by decide +kernel
theorem dX7_voicesAgain_25 : decode cX7_voicesAgain 25 = .ok (.iastore, 1) := by decide +kernel
theorem dX7_voicesAgain_26 : decode cX7_voicesAgain 26 = .ok (.iinc 2 1, 3) := by decide +kernel
theorem dX7_voicesAgain_29 : decode cX7_voicesAgain 29 = .ok (.goto (-16), 3) := by decide +kernel
theorem dX7_voicesAgain_32 : decode cX7_voicesAgain 32 = .ok (.iconst 0, 1) := by decide +kernel
theorem dX7_voicesAgain_33 : decode cX7_voicesAgain 33 = .ok (.istore_n 2, 1) := by decide +kernel
theorem dX7_voicesAgain_34 : decode cX7_voicesAgain 34 = .ok (.iload_n 2, 1) := by decide +kernel
theorem dX7_voicesAgain_35 : decode cX7_voicesAgain 35 = .ok (.aload_n 0, 1) := by decide +kernel
theorem dX7_voicesAgain_36 : decode cX7_voicesAgain 36 = .ok (.getfield 7, 3) := by decide +kernel
theorem dX7_voicesAgain_39 : decode cX7_voicesAgain 39 = .ok (.iconst 2, 1) := by decide +kernel
theorem dX7_voicesAgain_40 : decode cX7_voicesAgain 40 = .ok (.iaload, 1) := by decide +kernel
theorem dX7_voicesAgain_41 : decode cX7_voicesAgain 41 = .ok (.if_icmp .ge 37, 3) := by decide +kernel
theorem dX7_voicesAgain_44 : decode cX7_voicesAgain 44 = .ok (.aload_n 0, 1) := by decide +kernel
theorem dX7_voicesAgain_45 : decode cX7_voicesAgain 45 = .ok (.iload_n 2, 1) := by decide +kernel
theorem dX7_voicesAgain_46 : decode cX7_voicesAgain 46 = .ok (.bipush 7, 2) := by decide +kernel
theorem dX7_voicesAgain_48 : decode cX7_voicesAgain 48 = .ok (.invokevirtual 64, 3) := by decide +kernel
theorem dX7_voicesAgain_51 : decode cX7_voicesAgain 51 = .ok (.iconst 1, 1) := by decide +kernel
theorem dX7_voicesAgain_52 : decode cX7_voicesAgain 52 = .ok (.isub, 1) := by decide +kernel
theorem dX7_voicesAgain_53 : decode cX7_voicesAgain 53 = .ok (.istore_n 3, 1) := by decide +kernel
theorem dX7_voicesAgain_54 : decode cX7_voicesAgain 54 = .ok (.iload_n 3, 1) := by decide +kernel
theorem dX7_voicesAgain_55 : decode cX7_voicesAgain 55 = .ok (.ifCond .lt 17, 3) := by decide +kernel
theorem dX7_voicesAgain_58 : decode cX7_voicesAgain 58 = .ok (.aload_n 0, 1) := by decide +kernel
theorem dX7_voicesAgain_59 : decode cX7_voicesAgain 59 = .ok (.getfield 22, 3) := by decide +kernel
theorem dX7_voicesAgain_62 : decode cX7_voicesAgain 62 = .ok (.iload_n 3, 1) := by decide +kernel
theorem dX7_voicesAgain_63 : decode cX7_voicesAgain 63 = .ok (.dup2, 1) := by decide +kernel
theorem dX7_voicesAgain_64 : decode cX7_voicesAgain 64 = .ok (.iaload, 1) := by decide +kernel
theorem dX7_voicesAgain_65 : decode cX7_voicesAgain 65 = .ok (.aload_n 0, 1) := by decide +kernel
theorem dX7_voicesAgain_66 : decode cX7_voicesAgain 66 = .ok (.iload_n 3, 1) := by decide +kernel
theorem dX7_voicesAgain_67 : decode cX7_voicesAgain 67 = .ok (.invokevirtual 72, 3) := by decide +kernel
theorem dX7_voicesAgain_70 : decode cX7_voicesAgain 70 = .ok (.iadd, 1) := by decide +kernel
theorem dX7_voicesAgain_71 : decode cX7_voicesAgain 71 = .ok (.iastore, 1) := by decide +kernel
theorem dX7_voicesAgain_72 : decode cX7_voicesAgain 72 = .ok (.iinc 2 1, 3) := by decide +kernel
theorem dX7_voicesAgain_75 : decode cX7_voicesAgain 75 = .ok (.goto (-41), 3) := by decide +kernel
theorem dX7_voicesAgain_78 : decode cX7_voicesAgain 78 = .ok (.aload_n 0, 1) := by decide +kernel
theorem dX7_voicesAgain_79 : decode cX7_voicesAgain 79 = .ok (.getfield 22, 3) := by decide +kernel
theorem dX7_voicesAgain_82 : decode cX7_voicesAgain 82 = .ok (.iload_n 1, 1) := by decide +kernel
theorem dX7_voicesAgain_83 : decode cX7_voicesAgain 83 = .ok (.iaload, 1) := by decide +kernel
theorem dX7_voicesAgain_84 : decode cX7_voicesAgain 84 = .ok (.ireturn, 1) := by decide +kernel
theorem dX7_ranked_0 : decode cX7_ranked 0 = .ok (.aload_n 0, 1) := by decide +kernel
theorem dX7_ranked_1 : decode cX7_ranked 1 = .ok (.iload_n 1, 1) := by decide +kernel
theorem dX7_ranked_2 : decode cX7_ranked 2 = .ok (.invokevirtual 125, 3) := by decide +kernel
theorem dX7_ranked_5 : decode cX7_ranked 5 = .ok (.ireturn, 1) := by decide +kernel
theorem dX7_senior_0 : decode cX7_senior 0 = .ok (.iconst 0, 1) := by decide +kernel
theorem dX7_senior_1 : decode cX7_senior 1 = .ok (.istore_n 2, 1) := by decide +kernel
theorem dX7_senior_2 : decode cX7_senior 2 = .ok (.iload_n 2, 1) := by decide +kernel
theorem dX7_senior_3 : decode cX7_senior 3 = .ok (.aload_n 0, 1) := by decide +kernel
theorem dX7_senior_4 : decode cX7_senior 4 = .ok (.getfield 7, 3) := by decide +kernel
theorem dX7_senior_7 : decode cX7_senior 7 = .ok (.iconst 2, 1) := by decide +kernel
theorem dX7_senior_8 : decode cX7_senior 8 = .ok (.iaload, 1) := by decide +kernel
theorem dX7_senior_9 : decode cX7_senior 9 = .ok (.if_icmp .ge 78, 3) := by decide +kernel
theorem dX7_senior_12 : decode cX7_senior 12 = .ok (.aload_n 0, 1) := by decide +kernel
theorem dX7_senior_13 : decode cX7_senior 13 = .ok (.iload_n 2, 1) := by decide +kernel
theorem dX7_senior_14 : decode cX7_senior 14 = .ok (.iconst 1, 1) := by decide +kernel
theorem dX7_senior_15 : decode cX7_senior 15 = .ok (.invokevirtual 68, 3) := by decide +kernel
theorem dX7_senior_18 : decode cX7_senior 18 = .ok (.ifCond .ne 6, 3) := by decide +kernel
theorem dX7_senior_21 : decode cX7_senior 21 = .ok (.goto 60, 3) := by decide +kernel
theorem dX7_senior_24 : decode cX7_senior 24 = .ok (.iconst 0, 1) := by decide +kernel
theorem dX7_senior_25 : decode cX7_senior 25 = .ok (.istore_n 3, 1) := by decide +kernel
theorem dX7_senior_26 : decode cX7_senior 26 = .ok (.iconst 0, 1) := by decide +kernel
theorem dX7_senior_27 : decode cX7_senior 27 = .ok (.istore 4, 2) := by decide +kernel
theorem dX7_senior_29 : decode cX7_senior 29 = .ok (.iload 4, 2) := by decide +kernel
theorem dX7_senior_31 : decode cX7_senior 31 = .ok (.aload_n 0, 1) := by decide +kernel
theorem dX7_senior_32 : decode cX7_senior 32 = .ok (.getfield 7, 3) := by decide +kernel
theorem dX7_senior_35 : decode cX7_senior 35 = .ok (.iconst 2, 1) := by decide +kernel
theorem dX7_senior_36 : decode cX7_senior 36 = .ok (.iaload, 1) := by decide +kernel
theorem dX7_senior_37 : decode cX7_senior 37 = .ok (.if_icmp .ge 37, 3) := by decide +kernel
theorem dX7_senior_40 : decode cX7_senior 40 = .ok (.iload_n 3, 1) := by decide +kernel
theorem dX7_senior_41 : decode cX7_senior 41 = .ok (.aload_n 0, 1) := by decide +kernel
theorem dX7_senior_42 : decode cX7_senior 42 = .ok (.iload 4, 2) := by decide +kernel
theorem dX7_senior_44 : decode cX7_senior 44 = .ok (.iconst 1, 1) := by decide +kernel
theorem dX7_senior_45 : decode cX7_senior 45 = .ok (.invokevirtual 68, 3) := by decide +kernel
theorem dX7_senior_48 : decode cX7_senior 48 = .ok (.ifCond .eq 17, 3) := by decide +kernel
theorem dX7_senior_51 : decode cX7_senior 51 = .ok (.aload_n 0, 1) := by decide +kernel
theorem dX7_senior_52 : decode cX7_senior 52 = .ok (.iload 4, 2) := by decide +kernel
theorem dX7_senior_54 : decode cX7_senior 54 = .ok (.iload_n 2, 1) := by decide +kernel
theorem dX7_senior_55 : decode cX7_senior 55 = .ok (.invokevirtual 174, 3) := by decide +kernel
theorem dX7_senior_58 : decode cX7_senior 58 = .ok (.ifCond .eq 7, 3) := by decide +kernel
theorem dX7_senior_61 : decode cX7_senior 61 = .ok (.iconst 1, 1) := by decide +kernel
theorem dX7_senior_62 : decode cX7_senior 62 = .ok (.goto 4, 3) := by decide +kernel
theorem dX7_senior_65 : decode cX7_senior 65 = .ok (.iconst 0, 1) := by decide +kernel
theorem dX7_senior_66 : decode cX7_senior 66 = .ok (.iadd, 1) := by decide +kernel
theorem dX7_senior_67 : decode cX7_senior 67 = .ok (.istore_n 3, 1) := by decide +kernel
theorem dX7_senior_68 : decode cX7_senior 68 = .ok (.iinc 4 1, 3) := by decide +kernel
theorem dX7_senior_71 : decode cX7_senior 71 = .ok (.goto (-42), 3) := by decide +kernel
theorem dX7_senior_74 : decode cX7_senior 74 = .ok (.iload_n 3, 1) := by decide +kernel
theorem dX7_senior_75 : decode cX7_senior 75 = .ok (.iload_n 1, 1) := by decide +kernel
theorem dX7_senior_76 : decode cX7_senior 76 = .ok (.if_icmp .ne 5, 3) := by decide +kernel
theorem dX7_senior_79 : decode cX7_senior 79 = .ok (.iload_n 2, 1) := by decide +kernel
theorem dX7_senior_80 : decode cX7_senior 80 = .ok (.ireturn, 1) := by decide +kernel
theorem dX7_senior_81 : decode cX7_senior 81 = .ok (.iinc 2 1, 3) := by decide +kernel
theorem dX7_senior_84 : decode cX7_senior 84 = .ok (.goto (-82), 3) := by decide +kernel
theorem dX7_senior_87 : decode cX7_senior 87 = .ok (.bipush (-11), 2) := by decide +kernel
theorem dX7_senior_89 : decode cX7_senior 89 = .ok (.ireturn, 1) := by decide +kernel
theorem dX7_shabby_0 : decode cX7_shabby 0 = .ok (.aload_n 0, 1) := by decide +kernel
theorem dX7_shabby_1 : decode cX7_shabby 1 = .ok (.iload_n 1, 1) := by decide +kernel
theorem dX7_shabby_2 : decode cX7_shabby 2 = .ok (.invokevirtual 180, 3) := by decide +kernel
theorem dX7_shabby_5 : decode cX7_shabby 5 = .ok (.ireturn, 1) := by decide +kernel
theorem dX7_nextFeast_0 : decode cX7_nextFeast 0 = .ok (.iconst 0, 1) := by decide +kernel
theorem dX7_nextFeast_1 : decode cX7_nextFeast 1 = .ok (.istore_n 1, 1) := by decide +kernel
theorem dX7_nextFeast_2 : decode cX7_nextFeast 2 = .ok (.iload_n 1, 1) := by decide +kernel
theorem dX7_nextFeast_3 : decode cX7_nextFeast 3 = .ok (.bipush 52, 2) := by decide +kernel
theorem dX7_nextFeast_5 : decode cX7_nextFeast 5 = .ok (.if_icmp .ge 33, 3) := by decide +kernel
theorem dX7_nextFeast_8 : decode cX7_nextFeast 8 = .ok (.aload_n 0, 1) := by decide +kernel
theorem dX7_nextFeast_9 : decode cX7_nextFeast 9 = .ok (.getfield 7, 3) := by decide +kernel
theorem dX7_nextFeast_12 : decode cX7_nextFeast 12 = .ok (.bipush 12, 2) := by decide +kernel
theorem dX7_nextFeast_14 : decode cX7_nextFeast 14 = .ok (.aload_n 0, 1) := by decide +kernel
theorem dX7_nextFeast_15 : decode cX7_nextFeast 15 = .ok (.getfield 7, 3) := by decide +kernel
theorem dX7_nextFeast_18 : decode cX7_nextFeast 18 = .ok (.iconst 1, 1) := by decide +kernel
theorem dX7_nextFeast_19 : decode cX7_nextFeast 19 = .ok (.iaload, 1) := by decide +kernel
theorem dX7_nextFeast_20 : decode cX7_nextFeast 20 = .ok (.iload_n 1, 1) := by decide +kernel
theorem dX7_nextFeast_21 : decode cX7_nextFeast 21 = .ok (.iadd, 1) := by decide +kernel
theorem dX7_nextFeast_22 : decode cX7_nextFeast 22 = .ok (.bipush 52, 2) := by decide +kernel
theorem dX7_nextFeast_24 : decode cX7_nextFeast 24 = .ok (.irem, 1) := by decide +kernel
theorem dX7_nextFeast_25 : decode cX7_nextFeast 25 = .ok (.iadd, 1) := by decide +kernel
theorem dX7_nextFeast_26 : decode cX7_nextFeast 26 = .ok (.iaload, 1) := by decide +kernel
theorem dX7_nextFeast_27 : decode cX7_nextFeast 27 = .ok (.ifCond .le 5, 3) := by decide +kernel
theorem dX7_nextFeast_30 : decode cX7_nextFeast 30 = .ok (.iload_n 1, 1) := by decide +kernel
theorem dX7_nextFeast_31 : decode cX7_nextFeast 31 = .ok (.ireturn, 1) := by decide +kernel
theorem dX7_nextFeast_32 : decode cX7_nextFeast 32 = .ok (.iinc 1 1, 3) := by decide +kernel
theorem dX7_nextFeast_35 : decode cX7_nextFeast 35 = .ok (.goto (-33), 3) := by decide +kernel
theorem dX7_nextFeast_38 : decode cX7_nextFeast 38 = .ok (.bipush (-15), 2) := by decide +kernel
theorem dX7_nextFeast_40 : decode cX7_nextFeast 40 = .ok (.ireturn, 1) := by decide +kernel
theorem dX7_append_0 : decode cX7_append 0 = .ok (.iload_n 1, 1) := by decide +kernel
theorem dX7_append_1 : decode cX7_append 1 = .ok (.bipush 32, 2) := by decide +kernel
theorem dX7_append_3 : decode cX7_append 3 = .ok (.bipush 126, 2) := by decide +kernel
theorem dX7_append_5 : decode cX7_append 5 = .ok (.invokestatic 60, 3) := by decide +kernel
theorem dX7_append_8 : decode cX7_append 8 = .ok (.ifCond .ne 6, 3) := by decide +kernel
theorem dX7_append_11 : decode cX7_append 11 = .ok (.bipush (-12), 2) := by decide +kernel
theorem dX7_append_13 : decode cX7_append 13 = .ok (.ireturn, 1) := by decide +kernel
theorem dX7_append_14 : decode cX7_append 14 = .ok (.aload_n 0, 1) := by decide +kernel
theorem dX7_append_15 : decode cX7_append 15 = .ok (.getfield 204, 3) := by decide +kernel
theorem dX7_append_18 : decode cX7_append 18 = .ok (.bipush 60, 2) := by decide +kernel
theorem dX7_append_20 : decode cX7_append 20 = .ok (.if_icmp .ne 6, 3) := by decide +kernel
theorem dX7_append_23 : decode cX7_append 23 = .ok (.bipush (-13), 2) := by decide +kernel
theorem dX7_append_25 : decode cX7_append 25 = .ok (.ireturn, 1) := by decide +kernel
theorem dX7_append_26 : decode cX7_append 26 = .ok (.aload_n 0, 1) := by decide +kernel
theorem dX7_append_27 : decode cX7_append 27 = .ok (.getfield 25, 3) := by decide +kernel
theorem dX7_append_30 : decode cX7_append 30 = .ok (.aload_n 0, 1) := by decide +kernel
theorem dX7_append_31 : decode cX7_append 31 = .ok (.getfield 204, 3) := by decide +kernel
theorem dX7_append_34 : decode cX7_append 34 = .ok (.iload_n 1, 1) := by decide +kernel
theorem dX7_append_35 : decode cX7_append 35 = .ok (.i2c, 1) := by decide +kernel
theorem dX7_append_36 : decode cX7_append 36 = .ok (.castore, 1) := by decide +kernel
theorem dX7_append_37 : decode cX7_append 37 = .ok (.aload_n 0, 1) := by decide +kernel
theorem dX7_append_38 : decode cX7_append 38 = .ok (.dup, 1) := by decide +kernel
theorem dX7_append_39 : decode cX7_append 39 = .ok (.getfield 204, 3) := by decide +kernel
theorem dX7_append_42 : decode cX7_append 42 = .ok (.iconst 1, 1) := by decide +kernel
theorem dX7_append_43 : decode cX7_append 43 = .ok (.iadd, 1) := by decide +kernel
theorem dX7_append_44 : decode cX7_append 44 = .ok (.putfield 204, 3) := by decide +kernel
theorem dX7_append_47 : decode cX7_append 47 = .ok (.aload_n 0, 1) := by decide +kernel
theorem dX7_append_48 : decode cX7_append 48 = .ok (.getfield 204, 3) := by decide +kernel
theorem dX7_append_51 : decode cX7_append 51 = .ok (.ireturn, 1) := by decide +kernel
theorem dX7_sign_0 : decode cX7_sign 0 = .ok (.aload_n 0, 1) := by decide +kernel
theorem dX7_sign_1 : decode cX7_sign 1 = .ok (.getfield 207, 3) := by decide +kernel
theorem dX7_sign_4 : decode cX7_sign 4 = .ok (.aload_n 0, 1) := by decide +kernel
theorem dX7_sign_5 : decode cX7_sign 5 = .ok (.getfield 204, 3) := by decide +kernel
theorem dX7_sign_8 : decode cX7_sign 8 = .ok (.if_icmp .ge 15, 3) := by decide +kernel
theorem dX7_sign_11 : decode cX7_sign 11 = .ok (.aload_n 0, 1) := by decide +kernel
theorem dX7_sign_12 : decode cX7_sign 12 = .ok (.getfield 25, 3) := by decide +kernel
theorem dX7_sign_15 : decode cX7_sign 15 = .ok (.aload_n 0, 1) := by decide +kernel
theorem dX7_sign_16 : decode cX7_sign 16 = .ok (.getfield 207, 3) := by decide +kernel
theorem dX7_sign_19 : decode cX7_sign 19 = .ok (.caload, 1) := by decide +kernel
theorem dX7_sign_20 : decode cX7_sign 20 = .ok (.goto 4, 3) := by decide +kernel
theorem dX7_sign_23 : decode cX7_sign 23 = .ok (.iconst (-1), 1) := by decide +kernel
theorem dX7_sign_24 : decode cX7_sign 24 = .ok (.ireturn, 1) := by decide +kernel
theorem dX7_reads_0 : decode cX7_reads 0 = .ok (.aload_n 0, 1) := by decide +kernel
theorem dX7_reads_1 : decode cX7_reads 1 = .ok (.invokevirtual 210, 3) := by decide +kernel
theorem dX7_reads_4 : decode cX7_reads 4 = .ok (.iload_n 1, 1) := by decide +kernel
theorem dX7_reads_5 : decode cX7_reads 5 = .ok (.if_icmp .eq 5, 3) := by decide +kernel
theorem dX7_reads_8 : decode cX7_reads 8 = .ok (.iconst 0, 1) := by decide +kernel
theorem dX7_reads_9 : decode cX7_reads 9 = .ok (.ireturn, 1) := by decide +kernel
theorem dX7_reads_10 : decode cX7_reads 10 = .ok (.aload_n 0, 1) := by decide +kernel
theorem dX7_reads_11 : decode cX7_reads 11 = .ok (.dup, 1) := by decide +kernel
theorem dX7_reads_12 : decode cX7_reads 12 = .ok (.getfield 207, 3) := by decide +kernel
theorem dX7_reads_15 : decode cX7_reads 15 = .ok (.iconst 1, 1) := by decide +kernel
theorem dX7_reads_16 : decode cX7_reads 16 = .ok (.iadd, 1) := by decide +kernel
theorem dX7_reads_17 : decode cX7_reads 17 = .ok (.putfield 207, 3) := by decide +kernel
theorem dX7_reads_20 : decode cX7_reads 20 = .ok (.iconst 1, 1) := by decide +kernel
theorem dX7_reads_21 : decode cX7_reads 21 = .ok (.ireturn, 1) := by decide +kernel
theorem dX7_readsNumber_0 : decode cX7_readsNumber 0 = .ok (.aload_n 0, 1) := by decide +kernel
theorem dX7_readsNumber_1 : decode cX7_readsNumber 1 = .ok (.bipush 32, 2) := by decide +kernel
theorem dX7_readsNumber_3 : decode cX7_readsNumber 3 = .ok (.invokevirtual 213, 3) := by decide +kernel
theorem dX7_readsNumber_6 : decode cX7_readsNumber 6 = .ok (.ifCond .eq 17, 3) := by decide +kernel
theorem dX7_readsNumber_9 : decode cX7_readsNumber 9 = .ok (.aload_n 0, 1) := by decide +kernel
theorem dX7_readsNumber_10 : decode cX7_readsNumber 10 = .ok (.invokevirtual 210, 3) := by decide +kernel
theorem dX7_readsNumber_13 : decode cX7_readsNumber 13 = .ok (.bipush 48, 2) := by decide +kernel
theorem dX7_readsNumber_15 : decode cX7_readsNumber 15 = .ok (.bipush 57, 2) := by decide +kernel
theorem dX7_readsNumber_17 : decode cX7_readsNumber 17 = .ok (.invokestatic 60, 3) := by decide +kernel
theorem dX7_readsNumber_20 : decode cX7_readsNumber 20 = .ok (.ifCond .ne 5, 3) := by decide +kernel
theorem dX7_readsNumber_23 : decode cX7_readsNumber 23 = .ok (.iconst 0, 1) := by decide +kernel
theorem dX7_readsNumber_24 : decode cX7_readsNumber 24 = .ok (.ireturn, 1) := by decide +kernel
theorem dX7_readsNumber_25 : decode cX7_readsNumber 25 = .ok (.aload_n 0, 1) := by decide +kernel
theorem dX7_readsNumber_26 : decode cX7_readsNumber 26 = .ok (.getfield 29, 3) := by decide +kernel
theorem dX7_readsNumber_29 : decode cX7_readsNumber 29 = .ok (.iload_n 1, 1) := by decide +kernel
theorem dX7_readsNumber_30 : decode cX7_readsNumber 30 = .ok (.iconst 0, 1) := by decide +kernel
theorem dX7_readsNumber_31 : decode cX7_readsNumber 31 = .ok (.iastore, 1) := by decide +kernel
theorem dX7_readsNumber_32 : decode cX7_readsNumber 32 = .ok (.iconst 0, 1) := by decide +kernel
theorem dX7_readsNumber_33 : decode cX7_readsNumber 33 = .ok (.istore_n 3, 1) := by decide +kernel
theorem dX7_readsNumber_34 : decode cX7_readsNumber 34 = .ok (.iload_n 3, 1) := by decide +kernel
theorem dX7_readsNumber_35 : decode cX7_readsNumber 35 = .ok (.iload_n 2, 1) := by decide +kernel
theorem dX7_readsNumber_36 : decode cX7_readsNumber 36 = .ok (.if_icmp .ge 56, 3) := by decide +kernel
theorem dX7_readsNumber_39 : decode cX7_readsNumber 39 = .ok (.aload_n 0, 1) := by decide +kernel
theorem dX7_readsNumber_40 : decode cX7_readsNumber 40 = .ok (.invokevirtual 210, 3) := by decide +kernel
theorem dX7_readsNumber_43 : decode cX7_readsNumber 43 = .ok (.bipush 48, 2) := by decide +kernel
theorem dX7_readsNumber_45 : decode cX7_readsNumber 45 = .ok (.bipush 57, 2) := by decide +kernel
theorem dX7_readsNumber_47 : decode cX7_readsNumber 47 = .ok (.invokestatic 60, 3) := by decide +kernel
theorem dX7_readsNumber_50 : decode cX7_readsNumber 50 = .ok (.ifCond .eq 42, 3) := by decide +kernel
theorem dX7_readsNumber_53 : decode cX7_readsNumber 53 = .ok (.aload_n 0, 1) := by decide +kernel
theorem dX7_readsNumber_54 : decode cX7_readsNumber 54 = .ok (.getfield 29, 3) := by decide +kernel
theorem dX7_readsNumber_57 : decode cX7_readsNumber 57 = .ok (.iload_n 1, 1) := by decide +kernel
theorem dX7_readsNumber_58 : decode cX7_readsNumber 58 = .ok (.bipush 10, 2) := by decide +kernel
theorem dX7_readsNumber_60 : decode cX7_readsNumber 60 = .ok (.aload_n 0, 1) := by decide +kernel
theorem dX7_readsNumber_61 : decode cX7_readsNumber 61 = .ok (.getfield 29, 3) := by decide +kernel
theorem dX7_readsNumber_64 : decode cX7_readsNumber 64 = .ok (.iload_n 1, 1) := by decide +kernel
theorem dX7_readsNumber_65 : decode cX7_readsNumber 65 = .ok (.iaload, 1) := by decide +kernel
theorem dX7_readsNumber_66 : decode cX7_readsNumber 66 = .ok (.imul, 1) := by decide +kernel
theorem dX7_readsNumber_67 : decode cX7_readsNumber 67 = .ok (.aload_n 0, 1) := by decide +kernel
theorem dX7_readsNumber_68 : decode cX7_readsNumber 68 = .ok (.invokevirtual 210, 3) := by decide +kernel
theorem dX7_readsNumber_71 : decode cX7_readsNumber 71 = .ok (.iadd, 1) := by decide +kernel
theorem dX7_readsNumber_72 : decode cX7_readsNumber 72 = .ok (.bipush 48, 2) := by decide +kernel
theorem dX7_readsNumber_74 : decode cX7_readsNumber 74 = .ok (.isub, 1) := by decide +kernel
theorem dX7_readsNumber_75 : decode cX7_readsNumber 75 = .ok (.iastore, 1) := by decide +kernel
theorem dX7_readsNumber_76 : decode cX7_readsNumber 76 = .ok (.aload_n 0, 1) := by decide +kernel
theorem dX7_readsNumber_77 : decode cX7_readsNumber 77 = .ok (.dup, 1) := by decide +kernel
theorem dX7_readsNumber_78 : decode cX7_readsNumber 78 = .ok (.getfield 207, 3) := by decide +kernel
theorem dX7_readsNumber_81 : decode cX7_readsNumber 81 = .ok (.iconst 1, 1) := by decide +kernel
theorem dX7_readsNumber_82 : decode cX7_readsNumber 82 = .ok (.iadd, 1) := by decide +kernel
theorem dX7_readsNumber_83 : decode cX7_readsNumber 83 = .ok (.putfield 207, 3) := by decide +kernel
theorem dX7_readsNumber_86 : decode cX7_readsNumber 86 = .ok (.iinc 3 1, 3) := by decide +kernel
theorem dX7_readsNumber_89 : decode cX7_readsNumber 89 = .ok (.goto (-55), 3) := by decide +kernel
theorem dX7_readsNumber_92 : decode cX7_readsNumber 92 = .ok (.iconst 1, 1) := by decide +kernel
theorem dX7_readsNumber_93 : decode cX7_readsNumber 93 = .ok (.ireturn, 1) := by decide +kernel
theorem dX7_readsTwo_0 : decode cX7_readsTwo 0 = .ok (.aload_n 0, 1) := by decide +kernel
theorem dX7_readsTwo_1 : decode cX7_readsTwo 1 = .ok (.iload_n 1, 1) := by decide +kernel
theorem dX7_readsTwo_2 : decode cX7_readsTwo 2 = .ok (.putfield 216, 3) := by decide +kernel
theorem dX7_readsTwo_5 : decode cX7_readsTwo 5 = .ok (.aload_n 0, 1) := by decide +kernel
theorem dX7_readsTwo_6 : decode cX7_readsTwo 6 = .ok (.iconst 0, 1) := by decide +kernel
theorem dX7_readsTwo_7 : decode cX7_readsTwo 7 = .ok (.iload_n 2, 1) := by decide +kernel
theorem dX7_readsTwo_8 : decode cX7_readsTwo 8 = .ok (.invokevirtual 219, 3) := by decide +kernel
theorem dX7_readsTwo_11 : decode cX7_readsTwo 11 = .ok (.ifCond .eq 20, 3) := by decide +kernel
theorem dX7_readsTwo_14 : decode cX7_readsTwo 14 = .ok (.iload_n 3, 1) := by decide +kernel
theorem dX7_readsTwo_15 : decode cX7_readsTwo 15 = .ok (.ifCond .eq 12, 3) := by decide +kernel
theorem dX7_readsTwo_18 : decode cX7_readsTwo 18 = .ok (.aload_n 0, 1) := by decide +kernel
theorem dX7_readsTwo_19 : decode cX7_readsTwo 19 = .ok (.iconst 1, 1) := by decide +kernel
theorem dX7_readsTwo_20 : decode cX7_readsTwo 20 = .ok (.iload_n 3, 1) := by decide +kernel
theorem dX7_readsTwo_21 : decode cX7_readsTwo 21 = .ok (.invokevirtual 219, 3) := by decide +kernel
theorem dX7_readsTwo_24 : decode cX7_readsTwo 24 = .ok (.ifCond .eq 7, 3) := by decide +kernel
theorem dX7_readsTwo_27 : decode cX7_readsTwo 27 = .ok (.iconst 1, 1) := by decide +kernel
theorem dX7_readsTwo_28 : decode cX7_readsTwo 28 = .ok (.goto 4, 3) := by decide +kernel
theorem dX7_readsTwo_31 : decode cX7_readsTwo 31 = .ok (.iconst 0, 1) := by decide +kernel
theorem dX7_readsTwo_32 : decode cX7_readsTwo 32 = .ok (.ireturn, 1) := by decide +kernel
theorem dX7_readsOrder_0 : decode cX7_readsOrder 0 = .ok (.aload_n 0, 1) := by decide +kernel
theorem dX7_readsOrder_1 : decode cX7_readsOrder 1 = .ok (.bipush 118, 2) := by decide +kernel
theorem dX7_readsOrder_3 : decode cX7_readsOrder 3 = .ok (.invokevirtual 213, 3) := by decide +kernel
theorem dX7_readsOrder_6 : decode cX7_readsOrder 6 = .ok (.ifCond .eq 55, 3) := by decide +kernel
theorem dX7_readsOrder_9 : decode cX7_readsOrder 9 = .ok (.aload_n 0, 1) := by decide +kernel
theorem dX7_readsOrder_10 : decode cX7_readsOrder 10 = .ok (.bipush 111, 2) := by decide +kernel
theorem dX7_readsOrder_12 : decode cX7_readsOrder 12 = .ok (.invokevirtual 213, 3) := by decide +kernel
theorem dX7_readsOrder_15 : decode cX7_readsOrder 15 = .ok (.ifCond .eq 44, 3) := by decide +kernel
theorem dX7_readsOrder_18 : decode cX7_readsOrder 18 = .ok (.aload_n 0, 1) := by decide +kernel
theorem dX7_readsOrder_19 : decode cX7_readsOrder 19 = .ok (.bipush 105, 2) := by decide +kernel
theorem dX7_readsOrder_21 : decode cX7_readsOrder 21 = .ok (.invokevirtual 213, 3) := by decide +kernel
theorem dX7_readsOrder_24 : decode cX7_readsOrder 24 = .ok (.ifCond .eq 35, 3) := by decide +kernel
theorem dX7_readsOrder_27 : decode cX7_readsOrder 27 = .ok (.aload_n 0, 1) := by decide +kernel
theorem dX7_readsOrder_28 : decode cX7_readsOrder 28 = .ok (.bipush 99, 2) := by decide +kernel
theorem dX7_readsOrder_30 : decode cX7_readsOrder 30 = .ok (.invokevirtual 213, 3) := by decide +kernel
theorem dX7_readsOrder_33 : decode cX7_readsOrder 33 = .ok (.ifCond .eq 26, 3) := by decide +kernel
theorem dX7_readsOrder_36 : decode cX7_readsOrder 36 = .ok (.aload_n 0, 1) := by decide +kernel
theorem dX7_readsOrder_37 : decode cX7_readsOrder 37 = .ok (.bipush 101, 2) := by decide +kernel
theorem dX7_readsOrder_39 : decode cX7_readsOrder 39 = .ok (.invokevirtual 213, 3) := by decide +kernel
theorem dX7_readsOrder_42 : decode cX7_readsOrder 42 = .ok (.ifCond .eq 17, 3) := by decide +kernel
theorem dX7_readsOrder_45 : decode cX7_readsOrder 45 = .ok (.aload_n 0, 1) := by decide +kernel
theorem dX7_readsOrder_46 : decode cX7_readsOrder 46 = .ok (.iconst 0, 1) := by decide +kernel
theorem dX7_readsOrder_47 : decode cX7_readsOrder 47 = .ok (.iconst 2, 1) := by decide +kernel
theorem dX7_readsOrder_48 : decode cX7_readsOrder 48 = .ok (.iconst 2, 1) := by decide +kernel
theorem dX7_readsOrder_49 : decode cX7_readsOrder 49 = .ok (.invokevirtual 222, 3) := by decide +kernel
theorem dX7_readsOrder_52 : decode cX7_readsOrder 52 = .ok (.ifCond .eq 7, 3) := by decide +kernel
theorem dX7_readsOrder_55 : decode cX7_readsOrder 55 = .ok (.iconst 1, 1) := by decide +kernel
theorem dX7_readsOrder_56 : decode cX7_readsOrder 56 = .ok (.goto 4, 3) := by decide +kernel
theorem dX7_readsOrder_59 : decode cX7_readsOrder 59 = .ok (.iconst 0, 1) := by decide +kernel
theorem dX7_readsOrder_60 : decode cX7_readsOrder 60 = .ok (.ireturn, 1) := by decide +kernel
theorem dX7_readsOrder_61 : decode cX7_readsOrder 61 = .ok (.aload_n 0, 1) := by decide +kernel
theorem dX7_readsOrder_62 : decode cX7_readsOrder 62 = .ok (.bipush 99, 2) := by decide +kernel
theorem dX7_readsOrder_64 : decode cX7_readsOrder 64 = .ok (.invokevirtual 213, 3) := by decide +kernel
theorem dX7_readsOrder_67 : decode cX7_readsOrder 67 = .ok (.ifCond .eq 64, 3) := by decide +kernel
theorem dX7_readsOrder_70 : decode cX7_readsOrder 70 = .ok (.aload_n 0, 1) := by decide +kernel
theorem dX7_readsOrder_71 : decode cX7_readsOrder 71 = .ok (.bipush 104, 2) := by decide +kernel
theorem dX7_readsOrder_73 : decode cX7_readsOrder 73 = .ok (.invokevirtual 213, 3) := by decide +kernel
theorem dX7_readsOrder_76 : decode cX7_readsOrder 76 = .ok (.ifCond .eq 53, 3) := by decide +kernel
theorem dX7_readsOrder_79 : decode cX7_readsOrder 79 = .ok (.aload_n 0, 1) := by decide +kernel
theorem dX7_readsOrder_80 : decode cX7_readsOrder 80 = .ok (.bipush 111, 2) := by decide +kernel
theorem dX7_readsOrder_82 : decode cX7_readsOrder 82 = .ok (.invokevirtual 213, 3) := by decide +kernel
theorem dX7_readsOrder_85 : decode cX7_readsOrder 85 = .ok (.ifCond .eq 44, 3) := by decide +kernel
theorem dX7_readsOrder_88 : decode cX7_readsOrder 88 = .ok (.aload_n 0, 1) := by decide +kernel
theorem dX7_readsOrder_89 : decode cX7_readsOrder 89 = .ok (.bipush 111, 2) := by decide +kernel
theorem dX7_readsOrder_91 : decode cX7_readsOrder 91 = .ok (.invokevirtual 213, 3) := by decide +kernel
theorem dX7_readsOrder_94 : decode cX7_readsOrder 94 = .ok (.ifCond .eq 35, 3) := by decide +kernel
theorem dX7_readsOrder_97 : decode cX7_readsOrder 97 = .ok (.aload_n 0, 1) := by decide +kernel
theorem dX7_readsOrder_98 : decode cX7_readsOrder 98 = .ok (.bipush 115, 2) := by decide +kernel
theorem dX7_readsOrder_100 : decode cX7_readsOrder 100 = .ok (.invokevirtual 213, 3) := by decide +kernel
theorem dX7_readsOrder_103 : decode cX7_readsOrder 103 = .ok (.ifCond .eq 26, 3) := by decide +kernel
theorem dX7_readsOrder_106 : decode cX7_readsOrder 106 = .ok (.aload_n 0, 1) := by decide +kernel
theorem dX7_readsOrder_107 : decode cX7_readsOrder 107 = .ok (.bipush 101, 2) := by decide +kernel
theorem dX7_readsOrder_109 : decode cX7_readsOrder 109 = .ok (.invokevirtual 213, 3) := by decide +kernel
theorem dX7_readsOrder_112 : decode cX7_readsOrder 112 = .ok (.ifCond .eq 17, 3) := by decide +kernel
theorem dX7_readsOrder_115 : decode cX7_readsOrder 115 = .ok (.aload_n 0, 1) := by decide +kernel
theorem dX7_readsOrder_116 : decode cX7_readsOrder 116 = .ok (.iconst 1, 1) := by decide +kernel
theorem dX7_readsOrder_117 : decode cX7_readsOrder 117 = .ok (.iconst 1, 1) := by decide +kernel
theorem dX7_readsOrder_118 : decode cX7_readsOrder 118 = .ok (.iconst 0, 1) := by decide +kernel
theorem dX7_readsOrder_119 : decode cX7_readsOrder 119 = .ok (.invokevirtual 222, 3) := by decide +kernel
theorem dX7_readsOrder_122 : decode cX7_readsOrder 122 = .ok (.ifCond .eq 7, 3) := by decide +kernel
theorem dX7_readsOrder_125 : decode cX7_readsOrder 125 = .ok (.iconst 1, 1) := by decide +kernel
theorem dX7_readsOrder_126 : decode cX7_readsOrder 126 = .ok (.goto 4, 3) := by decide +kernel
theorem dX7_readsOrder_129 : decode cX7_readsOrder 129 = .ok (.iconst 0, 1) := by decide +kernel
theorem dX7_readsOrder_130 : decode cX7_readsOrder 130 = .ok (.ireturn, 1) := by decide +kernel
theorem dX7_readsOrder_131 : decode cX7_readsOrder 131 = .ok (.aload_n 0, 1) := by decide +kernel
theorem dX7_readsOrder_132 : decode cX7_readsOrder 132 = .ok (.bipush 108, 2) := by decide +kernel
theorem dX7_readsOrder_134 : decode cX7_readsOrder 134 = .ok (.invokevirtual 213, 3) := by decide +kernel
theorem dX7_readsOrder_137 : decode cX7_readsOrder 137 = .ok (.ifCond .eq 55, 3) := by decide +kernel
theorem dX7_readsOrder_140 : decode cX7_readsOrder 140 = .ok (.aload_n 0, 1) := by decide +kernel
theorem dX7_readsOrder_141 : decode cX7_readsOrder 141 = .ok (.bipush 101, 2) := by decide +kernel
theorem dX7_readsOrder_143 : decode cX7_readsOrder 143 = .ok (.invokevirtual 213, 3) := by decide +kernel
theorem dX7_readsOrder_146 : decode cX7_readsOrder 146 = .ok (.ifCond .eq 44, 3) := by decide +kernel
theorem dX7_readsOrder_149 : decode cX7_readsOrder 149 = .ok (.aload_n 0, 1) := by decide +kernel
theorem dX7_readsOrder_150 : decode cX7_readsOrder 150 = .ok (.bipush 97, 2) := by decide +kernel
theorem dX7_readsOrder_152 : decode cX7_readsOrder 152 = .ok (.invokevirtual 213, 3) := by decide +kernel
theorem dX7_readsOrder_155 : decode cX7_readsOrder 155 = .ok (.ifCond .eq 35, 3) := by decide +kernel
theorem dX7_readsOrder_158 : decode cX7_readsOrder 158 = .ok (.aload_n 0, 1) := by decide +kernel
theorem dX7_readsOrder_159 : decode cX7_readsOrder 159 = .ok (.bipush 118, 2) := by decide +kernel
theorem dX7_readsOrder_161 : decode cX7_readsOrder 161 = .ok (.invokevirtual 213, 3) := by decide +kernel
theorem dX7_readsOrder_164 : decode cX7_readsOrder 164 = .ok (.ifCond .eq 26, 3) := by decide +kernel
theorem dX7_readsOrder_167 : decode cX7_readsOrder 167 = .ok (.aload_n 0, 1) := by decide +kernel
theorem dX7_readsOrder_168 : decode cX7_readsOrder 168 = .ok (.bipush 101, 2) := by decide +kernel
theorem dX7_readsOrder_170 : decode cX7_readsOrder 170 = .ok (.invokevirtual 213, 3) := by decide +kernel
theorem dX7_readsOrder_173 : decode cX7_readsOrder 173 = .ok (.ifCond .eq 17, 3) := by decide +kernel
theorem dX7_readsOrder_176 : decode cX7_readsOrder 176 = .ok (.aload_n 0, 1) := by decide +kernel
theorem dX7_readsOrder_177 : decode cX7_readsOrder 177 = .ok (.iconst 2, 1) := by decide +kernel
theorem dX7_readsOrder_178 : decode cX7_readsOrder 178 = .ok (.iconst 1, 1) := by decide +kernel
theorem dX7_readsOrder_179 : decode cX7_readsOrder 179 = .ok (.iconst 0, 1) := by decide +kernel
theorem dX7_readsOrder_180 : decode cX7_readsOrder 180 = .ok (.invokevirtual 222, 3) := by decide +kernel
theorem dX7_readsOrder_183 : decode cX7_readsOrder 183 = .ok (.ifCond .eq 7, 3) := by decide +kernel
theorem dX7_readsOrder_186 : decode cX7_readsOrder 186 = .ok (.iconst 1, 1) := by decide +kernel
theorem dX7_readsOrder_187 : decode cX7_readsOrder 187 = .ok (.goto 4, 3) := by decide +kernel
theorem dX7_readsOrder_190 : decode cX7_readsOrder 190 = .ok (.iconst 0, 1) := by decide +kernel
theorem dX7_readsOrder_191 : decode cX7_readsOrder 191 = .ok (.ireturn, 1) := by decide +kernel
theorem dX7_readsOrder_192 : decode cX7_readsOrder 192 = .ok (.aload_n 0, 1) := by decide +kernel
theorem dX7_readsOrder_193 : decode cX7_readsOrder 193 = .ok (.bipush 98, 2) := by decide +kernel
theorem dX7_readsOrder_195 : decode cX7_readsOrder 195 = .ok (.invokevirtual 213, 3) := by decide +kernel
theorem dX7_readsOrder_198 : decode cX7_readsOrder 198 = .ok (.ifCond .eq 64, 3) := by decide +kernel
theorem dX7_readsOrder_201 : decode cX7_readsOrder 201 = .ok (.aload_n 0, 1) := by decide +kernel
theorem dX7_readsOrder_202 : decode cX7_readsOrder 202 = .ok (.bipush 114, 2) := by decide +kernel
theorem dX7_readsOrder_204 : decode cX7_readsOrder 204 = .ok (.invokevirtual 213, 3) := by decide +kernel
theorem dX7_readsOrder_207 : decode cX7_readsOrder 207 = .ok (.ifCond .eq 53, 3) := by decide +kernel
theorem dX7_readsOrder_210 : decode cX7_readsOrder 210 = .ok (.aload_n 0, 1) := by decide +kernel
theorem dX7_readsOrder_211 : decode cX7_readsOrder 211 = .ok (.bipush 101, 2) := by decide +kernel
theorem dX7_readsOrder_213 : decode cX7_readsOrder 213 = .ok (.invokevirtual 213, 3) := by decide +kernel
theorem dX7_readsOrder_216 : decode cX7_readsOrder 216 = .ok (.ifCond .eq 44, 3) := by decide +kernel
theorem dX7_readsOrder_219 : decode cX7_readsOrder 219 = .ok (.aload_n 0, 1) := by decide +kernel
theorem dX7_readsOrder_220 : decode cX7_readsOrder 220 = .ok (.bipush 97, 2) := by decide +kernel
theorem dX7_readsOrder_222 : decode cX7_readsOrder 222 = .ok (.invokevirtual 213, 3) := by decide +kernel
theorem dX7_readsOrder_225 : decode cX7_readsOrder 225 = .ok (.ifCond .eq 35, 3) := by decide +kernel
theorem dX7_readsOrder_228 : decode cX7_readsOrder 228 = .ok (.aload_n 0, 1) := by decide +kernel
theorem dX7_readsOrder_229 : decode cX7_readsOrder 229 = .ok (.bipush 99, 2) := by decide +kernel
theorem dX7_readsOrder_231 : decode cX7_readsOrder 231 = .ok (.invokevirtual 213, 3) := by decide +kernel
theorem dX7_readsOrder_234 : decode cX7_readsOrder 234 = .ok (.ifCond .eq 26, 3) := by decide +kernel
theorem dX7_readsOrder_237 : decode cX7_readsOrder 237 = .ok (.aload_n 0, 1) := by decide +kernel
theorem dX7_readsOrder_238 : decode cX7_readsOrder 238 = .ok (.bipush 104, 2) := by decide +kernel
theorem dX7_readsOrder_240 : decode cX7_readsOrder 240 = .ok (.invokevirtual 213, 3) := by decide +kernel
theorem dX7_readsOrder_243 : decode cX7_readsOrder 243 = .ok (.ifCond .eq 17, 3) := by decide +kernel
theorem dX7_readsOrder_246 : decode cX7_readsOrder 246 = .ok (.aload_n 0, 1) := by decide +kernel
theorem dX7_readsOrder_247 : decode cX7_readsOrder 247 = .ok (.iconst 3, 1) := by decide +kernel
theorem dX7_readsOrder_248 : decode cX7_readsOrder 248 = .ok (.iconst 2, 1) := by decide +kernel
theorem dX7_readsOrder_249 : decode cX7_readsOrder 249 = .ok (.iconst 1, 1) := by decide +kernel
theorem dX7_readsOrder_250 : decode cX7_readsOrder 250 = .ok (.invokevirtual 222, 3) := by decide +kernel
theorem dX7_readsOrder_253 : decode cX7_readsOrder 253 = .ok (.ifCond .eq 7, 3) := by decide +kernel
theorem dX7_readsOrder_256 : decode cX7_readsOrder 256 = .ok (.iconst 1, 1) := by decide +kernel
theorem dX7_readsOrder_257 : decode cX7_readsOrder 257 = .ok (.goto 4, 3) := by decide +kernel
theorem dX7_readsOrder_260 : decode cX7_readsOrder 260 = .ok (.iconst 0, 1) := by decide +kernel
theorem dX7_readsOrder_261 : decode cX7_readsOrder 261 = .ok (.ireturn, 1) := by decide +kernel
theorem dX7_readsOrder_262 : decode cX7_readsOrder 262 = .ok (.aload_n 0, 1) := by decide +kernel
theorem dX7_readsOrder_263 : decode cX7_readsOrder 263 = .ok (.bipush 112, 2) := by decide +kernel
theorem dX7_readsOrder_265 : decode cX7_readsOrder 265 = .ok (.invokevirtual 213, 3) := by decide +kernel
theorem dX7_readsOrder_268 : decode cX7_readsOrder 268 = .ok (.ifCond .eq 64, 3) := by decide +kernel
theorem dX7_readsOrder_271 : decode cX7_readsOrder 271 = .ok (.aload_n 0, 1) := by decide +kernel
theorem dX7_readsOrder_272 : decode cX7_readsOrder 272 = .ok (.bipush 97, 2) := by decide +kernel
theorem dX7_readsOrder_274 : decode cX7_readsOrder 274 = .ok (.invokevirtual 213, 3) := by decide +kernel
theorem dX7_readsOrder_277 : decode cX7_readsOrder 277 = .ok (.ifCond .eq 53, 3) := by decide +kernel
theorem dX7_readsOrder_280 : decode cX7_readsOrder 280 = .ok (.aload_n 0, 1) := by decide +kernel
theorem dX7_readsOrder_281 : decode cX7_readsOrder 281 = .ok (.bipush 114, 2) := by decide +kernel
theorem dX7_readsOrder_283 : decode cX7_readsOrder 283 = .ok (.invokevirtual 213, 3) := by decide +kernel
theorem dX7_readsOrder_286 : decode cX7_readsOrder 286 = .ok (.ifCond .eq 44, 3) := by decide +kernel
theorem dX7_readsOrder_289 : decode cX7_readsOrder 289 = .ok (.aload_n 0, 1) := by decide +kernel
theorem dX7_readsOrder_290 : decode cX7_readsOrder 290 = .ok (.bipush 100, 2) := by decide +kernel
theorem dX7_readsOrder_292 : decode cX7_readsOrder 292 = .ok (.invokevirtual 213, 3) := by decide +kernel
theorem dX7_readsOrder_295 : decode cX7_readsOrder 295 = .ok (.ifCond .eq 35, 3) := by decide +kernel
theorem dX7_readsOrder_298 : decode cX7_readsOrder 298 = .ok (.aload_n 0, 1) := by decide +kernel
theorem dX7_readsOrder_299 : decode cX7_readsOrder 299 = .ok (.bipush 111, 2) := by decide +kernel
theorem dX7_readsOrder_301 : decode cX7_readsOrder 301 = .ok (.invokevirtual 213, 3) := by decide +kernel
theorem dX7_readsOrder_304 : decode cX7_readsOrder 304 = .ok (.ifCond .eq 26, 3) := by decide +kernel
theorem dX7_readsOrder_307 : decode cX7_readsOrder 307 = .ok (.aload_n 0, 1) := by decide +kernel
theorem dX7_readsOrder_308 : decode cX7_readsOrder 308 = .ok (.bipush 110, 2) := by decide +kernel
theorem dX7_readsOrder_310 : decode cX7_readsOrder 310 = .ok (.invokevirtual 213, 3) := by decide +kernel
theorem dX7_readsOrder_313 : decode cX7_readsOrder 313 = .ok (.ifCond .eq 17, 3) := by decide +kernel
theorem dX7_readsOrder_316 : decode cX7_readsOrder 316 = .ok (.aload_n 0, 1) := by decide +kernel
theorem dX7_readsOrder_317 : decode cX7_readsOrder 317 = .ok (.iconst 4, 1) := by decide +kernel
theorem dX7_readsOrder_318 : decode cX7_readsOrder 318 = .ok (.iconst 2, 1) := by decide +kernel
theorem dX7_readsOrder_319 : decode cX7_readsOrder 319 = .ok (.iconst 0, 1) := by decide +kernel
theorem dX7_readsOrder_320 : decode cX7_readsOrder 320 = .ok (.invokevirtual 222, 3) := by decide +kernel
theorem dX7_readsOrder_323 : decode cX7_readsOrder 323 = .ok (.ifCond .eq 7, 3) := by decide +kernel
theorem dX7_readsOrder_326 : decode cX7_readsOrder 326 = .ok (.iconst 1, 1) := by decide +kernel
theorem dX7_readsOrder_327 : decode cX7_readsOrder 327 = .ok (.goto 4, 3) := by decide +kernel
theorem dX7_readsOrder_330 : decode cX7_readsOrder 330 = .ok (.iconst 0, 1) := by decide +kernel
theorem dX7_readsOrder_331 : decode cX7_readsOrder 331 = .ok (.ireturn, 1) := by decide +kernel
theorem dX7_readsOrder_332 : decode cX7_readsOrder 332 = .ok (.aload_n 0, 1) := by decide +kernel
theorem dX7_readsOrder_333 : decode cX7_readsOrder 333 = .ok (.bipush 102, 2) := by decide +kernel
theorem dX7_readsOrder_335 : decode cX7_readsOrder 335 = .ok (.invokevirtual 213, 3) := by decide +kernel
theorem dX7_readsOrder_338 : decode cX7_readsOrder 338 = .ok (.ifCond .eq 55, 3) := by decide +kernel
theorem dX7_readsOrder_341 : decode cX7_readsOrder 341 = .ok (.aload_n 0, 1) := by decide +kernel
theorem dX7_readsOrder_342 : decode cX7_readsOrder 342 = .ok (.bipush 101, 2) := by decide +kernel
theorem dX7_readsOrder_344 : decode cX7_readsOrder 344 = .ok (.invokevirtual 213, 3) := by decide +kernel
theorem dX7_readsOrder_347 : decode cX7_readsOrder 347 = .ok (.ifCond .eq 44, 3) := by decide +kernel
theorem dX7_readsOrder_350 : decode cX7_readsOrder 350 = .ok (.aload_n 0, 1) := by decide +kernel
theorem dX7_readsOrder_351 : decode cX7_readsOrder 351 = .ok (.bipush 97, 2) := by decide +kernel
theorem dX7_readsOrder_353 : decode cX7_readsOrder 353 = .ok (.invokevirtual 213, 3) := by decide +kernel
theorem dX7_readsOrder_356 : decode cX7_readsOrder 356 = .ok (.ifCond .eq 35, 3) := by decide +kernel
theorem dX7_readsOrder_359 : decode cX7_readsOrder 359 = .ok (.aload_n 0, 1) := by decide +kernel
theorem dX7_readsOrder_360 : decode cX7_readsOrder 360 = .ok (.bipush 115, 2) := by decide +kernel
theorem dX7_readsOrder_362 : decode cX7_readsOrder 362 = .ok (.invokevirtual 213, 3) := by decide +kernel
theorem dX7_readsOrder_365 : decode cX7_readsOrder 365 = .ok (.ifCond .eq 26, 3) := by decide +kernel
theorem dX7_readsOrder_368 : decode cX7_readsOrder 368 = .ok (.aload_n 0, 1) := by decide +kernel
theorem dX7_readsOrder_369 : decode cX7_readsOrder 369 = .ok (.bipush 116, 2) := by decide +kernel
theorem dX7_readsOrder_371 : decode cX7_readsOrder 371 = .ok (.invokevirtual 213, 3) := by decide +kernel
theorem dX7_readsOrder_374 : decode cX7_readsOrder 374 = .ok (.ifCond .eq 17, 3) := by decide +kernel
theorem dX7_readsOrder_377 : decode cX7_readsOrder 377 = .ok (.aload_n 0, 1) := by decide +kernel
theorem dX7_readsOrder_378 : decode cX7_readsOrder 378 = .ok (.iconst 5, 1) := by decide +kernel
theorem dX7_readsOrder_379 : decode cX7_readsOrder 379 = .ok (.iconst 2, 1) := by decide +kernel
theorem dX7_readsOrder_380 : decode cX7_readsOrder 380 = .ok (.iconst 1, 1) := by decide +kernel
theorem dX7_readsOrder_381 : decode cX7_readsOrder 381 = .ok (.invokevirtual 222, 3) := by decide +kernel
theorem dX7_readsOrder_384 : decode cX7_readsOrder 384 = .ok (.ifCond .eq 7, 3) := by decide +kernel
theorem dX7_readsOrder_387 : decode cX7_readsOrder 387 = .ok (.iconst 1, 1) := by decide +kernel
theorem dX7_readsOrder_388 : decode cX7_readsOrder 388 = .ok (.goto 4, 3) := by decide +kernel
theorem dX7_readsOrder_391 : decode cX7_readsOrder 391 = .ok (.iconst 0, 1) := by decide +kernel
theorem dX7_readsOrder_392 : decode cX7_readsOrder 392 = .ok (.ireturn, 1) := by decide +kernel
theorem dX7_readsOrder_393 : decode cX7_readsOrder 393 = .ok (.aload_n 0, 1) := by decide +kernel
theorem dX7_readsOrder_394 : decode cX7_readsOrder 394 = .ok (.bipush 103, 2) := by decide +kernel
theorem dX7_readsOrder_396 : decode cX7_readsOrder 396 = .ok (.invokevirtual 213, 3) := by decide +kernel
theorem dX7_readsOrder_399 : decode cX7_readsOrder 399 = .ok (.ifCond .eq 47, 3) := by decide +kernel
theorem dX7_readsOrder_402 : decode cX7_readsOrder 402 = .ok (.aload_n 0, 1) := by decide +kernel
theorem dX7_readsOrder_403 : decode cX7_readsOrder 403 = .ok (.bipush 105, 2) := by decide +kernel
theorem dX7_readsOrder_405 : decode cX7_readsOrder 405 = .ok (.invokevirtual 213, 3) := by decide +kernel
theorem dX7_readsOrder_408 : decode cX7_readsOrder 408 = .ok (.ifCond .eq 36, 3) := by decide +kernel
theorem dX7_readsOrder_411 : decode cX7_readsOrder 411 = .ok (.aload_n 0, 1) := by decide +kernel
theorem dX7_readsOrder_412 : decode cX7_readsOrder 412 = .ok (.bipush 102, 2) := by decide +kernel
theorem dX7_readsOrder_414 : decode cX7_readsOrder 414 = .ok (.invokevirtual 213, 3) := by decide +kernel
theorem dX7_readsOrder_417 : decode cX7_readsOrder 417 = .ok (.ifCond .eq 27, 3) := by decide +kernel
theorem dX7_readsOrder_420 : decode cX7_readsOrder 420 = .ok (.aload_n 0, 1) := by decide +kernel
theorem dX7_readsOrder_421 : decode cX7_readsOrder 421 = .ok (.bipush 116, 2) := by decide +kernel
theorem dX7_readsOrder_423 : decode cX7_readsOrder 423 = .ok (.invokevirtual 213, 3) := by decide +kernel
theorem dX7_readsOrder_426 : decode cX7_readsOrder 426 = .ok (.ifCond .eq 18, 3) := by decide +kernel
theorem dX7_readsOrder_429 : decode cX7_readsOrder 429 = .ok (.aload_n 0, 1) := by decide +kernel
theorem dX7_readsOrder_430 : decode cX7_readsOrder 430 = .ok (.bipush 6, 2) := by decide +kernel
theorem dX7_readsOrder_432 : decode cX7_readsOrder 432 = .ok (.iconst 3, 1) := by decide +kernel
theorem dX7_readsOrder_433 : decode cX7_readsOrder 433 = .ok (.iconst 0, 1) := by decide +kernel
theorem dX7_readsOrder_434 : decode cX7_readsOrder 434 = .ok (.invokevirtual 222, 3) := by decide +kernel
theorem dX7_readsOrder_437 : decode cX7_readsOrder 437 = .ok (.ifCond .eq 7, 3) := by decide +kernel
theorem dX7_readsOrder_440 : decode cX7_readsOrder 440 = .ok (.iconst 1, 1) := by decide +kernel
theorem dX7_readsOrder_441 : decode cX7_readsOrder 441 = .ok (.goto 4, 3) := by decide +kernel
theorem dX7_readsOrder_444 : decode cX7_readsOrder 444 = .ok (.iconst 0, 1) := by decide +kernel
theorem dX7_readsOrder_445 : decode cX7_readsOrder 445 = .ok (.ireturn, 1) := by decide +kernel
theorem dX7_readsOrder_446 : decode cX7_readsOrder 446 = .ok (.aload_n 0, 1) := by decide +kernel
theorem dX7_readsOrder_447 : decode cX7_readsOrder 447 = .ok (.bipush 119, 2) := by decide +kernel
theorem dX7_readsOrder_449 : decode cX7_readsOrder 449 = .ok (.invokevirtual 213, 3) := by decide +kernel
theorem dX7_readsOrder_452 : decode cX7_readsOrder 452 = .ok (.ifCond .eq 54, 3) := by decide +kernel
theorem dX7_readsOrder_455 : decode cX7_readsOrder 455 = .ok (.aload_n 0, 1) := by decide +kernel
theorem dX7_readsOrder_456 : decode cX7_readsOrder 456 = .ok (.bipush 101, 2) := by decide +kernel
theorem dX7_readsOrder_458 : decode cX7_readsOrder 458 = .ok (.invokevirtual 213, 3) := by decide +kernel
theorem dX7_readsOrder_461 : decode cX7_readsOrder 461 = .ok (.ifCond .eq 45, 3) := by decide +kernel
theorem dX7_readsOrder_464 : decode cX7_readsOrder 464 = .ok (.aload_n 0, 1) := by decide +kernel
theorem dX7_readsOrder_465 : decode cX7_readsOrder 465 = .ok (.bipush 101, 2) := by decide +kernel
theorem dX7_readsOrder_467 : decode cX7_readsOrder 467 = .ok (.invokevirtual 213, 3) := by decide +kernel
theorem dX7_readsOrder_470 : decode cX7_readsOrder 470 = .ok (.ifCond .eq 36, 3) := by decide +kernel
theorem dX7_readsOrder_473 : decode cX7_readsOrder 473 = .ok (.aload_n 0, 1) := by decide +kernel
theorem dX7_readsOrder_474 : decode cX7_readsOrder 474 = .ok (.bipush 107, 2) := by decide +kernel
theorem dX7_readsOrder_476 : decode cX7_readsOrder 476 = .ok (.invokevirtual 213, 3) := by decide +kernel
theorem dX7_readsOrder_479 : decode cX7_readsOrder 479 = .ok (.ifCond .eq 27, 3) := by decide +kernel
theorem dX7_readsOrder_482 : decode cX7_readsOrder 482 = .ok (.aload_n 0, 1) := by decide +kernel
theorem dX7_readsOrder_483 : decode cX7_readsOrder 483 = .ok (.bipush 115, 2) := by decide +kernel
theorem dX7_readsOrder_485 : decode cX7_readsOrder 485 = .ok (.invokevirtual 213, 3) := by decide +kernel
theorem dX7_readsOrder_488 : decode cX7_readsOrder 488 = .ok (.ifCond .eq 18, 3) := by decide +kernel
theorem dX7_readsOrder_491 : decode cX7_readsOrder 491 = .ok (.aload_n 0, 1) := by decide +kernel
theorem dX7_readsOrder_492 : decode cX7_readsOrder 492 = .ok (.bipush 7, 2) := by decide +kernel
theorem dX7_readsOrder_494 : decode cX7_readsOrder 494 = .ok (.iconst 2, 1) := by decide +kernel
theorem dX7_readsOrder_495 : decode cX7_readsOrder 495 = .ok (.iconst 0, 1) := by decide +kernel
theorem dX7_readsOrder_496 : decode cX7_readsOrder 496 = .ok (.invokevirtual 222, 3) := by decide +kernel
theorem dX7_readsOrder_499 : decode cX7_readsOrder 499 = .ok (.ifCond .eq 7, 3) := by decide +kernel
theorem dX7_readsOrder_502 : decode cX7_readsOrder 502 = .ok (.iconst 1, 1) := by decide +kernel
theorem dX7_readsOrder_503 : decode cX7_readsOrder 503 = .ok (.goto 4, 3) := by decide +kernel
theorem dX7_readsOrder_506 : decode cX7_readsOrder 506 = .ok (.iconst 0, 1) := by decide +kernel
theorem dX7_readsOrder_507 : decode cX7_readsOrder 507 = .ok (.ireturn, 1) := by decide +kernel
theorem dX7_readsAll_0 : decode cX7_readsAll 0 = .ok (.aload_n 0, 1) := by decide +kernel
theorem dX7_readsAll_1 : decode cX7_readsAll 1 = .ok (.iconst 0, 1) := by decide +kernel
theorem dX7_readsAll_2 : decode cX7_readsAll 2 = .ok (.putfield 207, 3) := by decide +kernel
theorem dX7_readsAll_5 : decode cX7_readsAll 5 = .ok (.iconst 1, 1) := by decide +kernel
theorem dX7_readsAll_6 : decode cX7_readsAll 6 = .ok (.istore_n 1, 1) := by decide +kernel
theorem dX7_readsAll_7 : decode cX7_readsAll 7 = .ok (.iload_n 1, 1) := by decide +kernel
theorem dX7_readsAll_8 : decode cX7_readsAll 8 = .ok (.ifCond .eq 22, 3) := by decide +kernel
theorem dX7_readsAll_11 : decode cX7_readsAll 11 = .ok (.aload_n 0, 1) := by decide +kernel
theorem dX7_readsAll_12 : decode cX7_readsAll 12 = .ok (.invokevirtual 225, 3) := by decide +kernel
theorem dX7_readsAll_15 : decode cX7_readsAll 15 = .ok (.ifCond .ne 5, 3) := by decide +kernel
theorem dX7_readsAll_18 : decode cX7_readsAll 18 = .ok (.iconst 0, 1) := by decide +kernel
theorem dX7_readsAll_19 : decode cX7_readsAll 19 = .ok (.ireturn, 1) := by decide +kernel
theorem dX7_readsAll_20 : decode cX7_readsAll 20 = .ok (.aload_n 0, 1) := by decide +kernel
theorem dX7_readsAll_21 : decode cX7_readsAll 21 = .ok (.bipush 59, 2) := by decide +kernel
theorem dX7_readsAll_23 : decode cX7_readsAll 23 = .ok (.invokevirtual 213, 3) := by decide +kernel
theorem dX7_readsAll_26 : decode cX7_readsAll 26 = .ok (.istore_n 1, 1) := by decide +kernel
theorem dX7_readsAll_27 : decode cX7_readsAll 27 = .ok (.goto (-20), 3) := by decide +kernel
theorem dX7_readsAll_30 : decode cX7_readsAll 30 = .ok (.aload_n 0, 1) := by decide +kernel
theorem dX7_readsAll_31 : decode cX7_readsAll 31 = .ok (.getfield 207, 3) := by decide +kernel
theorem dX7_readsAll_34 : decode cX7_readsAll 34 = .ok (.aload_n 0, 1) := by decide +kernel
theorem dX7_readsAll_35 : decode cX7_readsAll 35 = .ok (.getfield 204, 3) := by decide +kernel
theorem dX7_readsAll_38 : decode cX7_readsAll 38 = .ok (.if_icmp .ne 7, 3) := by decide +kernel
theorem dX7_readsAll_41 : decode cX7_readsAll 41 = .ok (.iconst 1, 1) := by decide +kernel
theorem dX7_readsAll_42 : decode cX7_readsAll 42 = .ok (.goto 4, 3) := by decide +kernel
theorem dX7_readsAll_45 : decode cX7_readsAll 45 = .ok (.iconst 0, 1) := by decide +kernel
theorem dX7_readsAll_46 : decode cX7_readsAll 46 = .ok (.ireturn, 1) := by decide +kernel
theorem dX7_notNow_0 : decode cX7_notNow 0 = .ok (.aload_n 0, 1) := by decide +kernel
theorem dX7_notNow_1 : decode cX7_notNow 1 = .ok (.getfield 29, 3) := by decide +kernel
theorem dX7_notNow_4 : decode cX7_notNow 4 = .ok (.iconst 0, 1) := by decide +kernel
theorem dX7_notNow_5 : decode cX7_notNow 5 = .ok (.iaload, 1) := by decide +kernel
theorem dX7_notNow_6 : decode cX7_notNow 6 = .ok (.istore_n 1, 1) := by decide +kernel
theorem dX7_notNow_7 : decode cX7_notNow 7 = .ok (.aload_n 0, 1) := by decide +kernel
theorem dX7_notNow_8 : decode cX7_notNow 8 = .ok (.getfield 29, 3) := by decide +kernel
theorem dX7_notNow_11 : decode cX7_notNow 11 = .ok (.iconst 1, 1) := by decide +kernel
theorem dX7_notNow_12 : decode cX7_notNow 12 = .ok (.iaload, 1) := by decide +kernel
theorem dX7_notNow_13 : decode cX7_notNow 13 = .ok (.istore_n 2, 1) := by decide +kernel
theorem dX7_notNow_14 : decode cX7_notNow 14 = .ok (.aload_n 0, 1) := by decide +kernel
theorem dX7_notNow_15 : decode cX7_notNow 15 = .ok (.getfield 216, 3) := by decide +kernel
theorem dX7_notNow_18 : decode cX7_notNow 18 = .ok (.tableswitch 99 0 6 #[42, 49, 55, 61, 68, 74, 81], 42) := by decide +kernel
theorem dX7_notNow_60 : decode cX7_notNow 60 = .ok (.aload_n 0, 1) := by decide +kernel
theorem dX7_notNow_61 : decode cX7_notNow 61 = .ok (.iload_n 1, 1) := by decide +kernel
theorem dX7_notNow_62 : decode cX7_notNow 62 = .ok (.iload_n 2, 1) := by decide +kernel
theorem dX7_notNow_63 : decode cX7_notNow 63 = .ok (.invokevirtual 110, 3) := by decide +kernel
theorem dX7_notNow_66 : decode cX7_notNow 66 = .ok (.ireturn, 1) := by decide +kernel
theorem dX7_notNow_67 : decode cX7_notNow 67 = .ok (.aload_n 0, 1) := by decide +kernel
theorem dX7_notNow_68 : decode cX7_notNow 68 = .ok (.iload_n 1, 1) := by decide +kernel
theorem dX7_notNow_69 : decode cX7_notNow 69 = .ok (.invokevirtual 128, 3) := by decide +kernel
theorem dX7_notNow_72 : decode cX7_notNow 72 = .ok (.ireturn, 1) := by decide +kernel
theorem dX7_notNow_73 : decode cX7_notNow 73 = .ok (.aload_n 0, 1) := by decide +kernel
theorem dX7_notNow_74 : decode cX7_notNow 74 = .ok (.iload_n 1, 1) := by decide +kernel
theorem dX7_notNow_75 : decode cX7_notNow 75 = .ok (.invokevirtual 134, 3) := by decide +kernel
theorem dX7_notNow_78 : decode cX7_notNow 78 = .ok (.ireturn, 1) := by decide +kernel
theorem dX7_notNow_79 : decode cX7_notNow 79 = .ok (.aload_n 0, 1) := by decide +kernel
theorem dX7_notNow_80 : decode cX7_notNow 80 = .ok (.iload_n 1, 1) := by decide +kernel
theorem dX7_notNow_81 : decode cX7_notNow 81 = .ok (.iload_n 2, 1) := by decide +kernel
theorem dX7_notNow_82 : decode cX7_notNow 82 = .ok (.invokevirtual 146, 3) := by decide +kernel
theorem dX7_notNow_85 : decode cX7_notNow 85 = .ok (.ireturn, 1) := by decide +kernel
theorem dX7_notNow_86 : decode cX7_notNow 86 = .ok (.aload_n 0, 1) := by decide +kernel
theorem dX7_notNow_87 : decode cX7_notNow 87 = .ok (.iload_n 1, 1) := by decide +kernel
theorem dX7_notNow_88 : decode cX7_notNow 88 = .ok (.invokevirtual 152, 3) := by decide +kernel
theorem dX7_notNow_91 : decode cX7_notNow 91 = .ok (.ireturn, 1) := by decide +kernel
theorem dX7_notNow_92 : decode cX7_notNow 92 = .ok (.aload_n 0, 1) := by decide +kernel
theorem dX7_notNow_93 : decode cX7_notNow 93 = .ok (.iload_n 1, 1) := by decide +kernel
theorem dX7_notNow_94 : decode cX7_notNow 94 = .ok (.iload_n 2, 1) := by decide +kernel
theorem dX7_notNow_95 : decode cX7_notNow 95 = .ok (.invokevirtual 140, 3) := by decide +kernel
theorem dX7_notNow_98 : decode cX7_notNow 98 = .ok (.ireturn, 1) := by decide +kernel
theorem dX7_notNow_99 : decode cX7_notNow 99 = .ok (.iload_n 1, 1) := by decide +kernel
theorem dX7_notNow_100 : decode cX7_notNow 100 = .ok (.iconst 1, 1) := by decide +kernel
theorem dX7_notNow_101 : decode cX7_notNow 101 = .ok (.sipush 500, 3) := by decide +kernel
theorem dX7_notNow_104 : decode cX7_notNow 104 = .ok (.invokestatic 60, 3) := by decide +kernel
theorem dX7_notNow_107 : decode cX7_notNow 107 = .ok (.ifCond .eq 7, 3) := by decide +kernel
theorem dX7_notNow_110 : decode cX7_notNow 110 = .ok (.iconst 0, 1) := by decide +kernel
theorem dX7_notNow_111 : decode cX7_notNow 111 = .ok (.goto 5, 3) := by decide +kernel
theorem dX7_notNow_114 : decode cX7_notNow 114 = .ok (.bipush (-12), 2) := by decide +kernel
theorem dX7_notNow_116 : decode cX7_notNow 116 = .ok (.ireturn, 1) := by decide +kernel
theorem dX7_notNow_117 : decode cX7_notNow 117 = .ok (.iload_n 1, 1) := by decide +kernel
theorem dX7_notNow_118 : decode cX7_notNow 118 = .ok (.iconst 1, 1) := by decide +kernel
theorem dX7_notNow_119 : decode cX7_notNow 119 = .ok (.bipush 60, 2) := by decide +kernel
theorem dX7_notNow_121 : decode cX7_notNow 121 = .ok (.invokestatic 60, 3) := by decide +kernel
theorem dX7_notNow_124 : decode cX7_notNow 124 = .ok (.ifCond .eq 7, 3) := by decide +kernel
theorem dX7_notNow_127 : decode cX7_notNow 127 = .ok (.iconst 0, 1) := by decide +kernel
theorem dX7_notNow_128 : decode cX7_notNow 128 = .ok (.goto 5, 3) := by decide +kernel
theorem dX7_notNow_131 : decode cX7_notNow 131 = .ok (.bipush (-12), 2) := by decide +kernel
theorem dX7_notNow_133 : decode cX7_notNow 133 = .ok (.ireturn, 1) := by decide +kernel
theorem dX7_doesNow_0 : decode cX7_doesNow 0 = .ok (.aload_n 0, 1) := by decide +kernel
theorem dX7_doesNow_1 : decode cX7_doesNow 1 = .ok (.getfield 29, 3) := by decide +kernel
theorem dX7_doesNow_4 : decode cX7_doesNow 4 = .ok (.iconst 0, 1) := by decide +kernel
theorem dX7_doesNow_5 : decode cX7_doesNow 5 = .ok (.iaload, 1) := by decide +kernel
theorem dX7_doesNow_6 : decode cX7_doesNow 6 = .ok (.istore_n 1, 1) := by decide +kernel
theorem dX7_doesNow_7 : decode cX7_doesNow 7 = .ok (.aload_n 0, 1) := by decide +kernel
theorem dX7_doesNow_8 : decode cX7_doesNow 8 = .ok (.getfield 29, 3) := by decide +kernel
theorem dX7_doesNow_11 : decode cX7_doesNow 11 = .ok (.iconst 1, 1) := by decide +kernel
theorem dX7_doesNow_12 : decode cX7_doesNow 12 = .ok (.iaload, 1) := by decide +kernel
theorem dX7_doesNow_13 : decode cX7_doesNow 13 = .ok (.istore_n 2, 1) := by decide +kernel
theorem dX7_doesNow_14 : decode cX7_doesNow 14 = .ok (.aload_n 0, 1) := by decide +kernel
theorem dX7_doesNow_15 : decode cX7_doesNow 15 = .ok (.getfield 216, 3) := by decide +kernel
theorem dX7_doesNow_18 : decode cX7_doesNow 18 = .ok (.tableswitch 87 0 6 #[42, 49, 55, 61, 68, 74, 81], 42) := by decide +kernel
theorem dX7_doesNow_60 : decode cX7_doesNow 60 = .ok (.aload_n 0, 1) := by decide +kernel
theorem dX7_doesNow_61 : decode cX7_doesNow 61 = .ok (.iload_n 1, 1) := by decide +kernel
theorem dX7_doesNow_62 : decode cX7_doesNow 62 = .ok (.iload_n 2, 1) := by decide +kernel
theorem dX7_doesNow_63 : decode cX7_doesNow 63 = .ok (.invokevirtual 113, 3) := by decide +kernel
theorem dX7_doesNow_66 : decode cX7_doesNow 66 = .ok (.ireturn, 1) := by decide +kernel
theorem dX7_doesNow_67 : decode cX7_doesNow 67 = .ok (.aload_n 0, 1) := by decide +kernel
theorem dX7_doesNow_68 : decode cX7_doesNow 68 = .ok (.iload_n 1, 1) := by decide +kernel
theorem dX7_doesNow_69 : decode cX7_doesNow 69 = .ok (.invokevirtual 131, 3) := by decide +kernel
theorem dX7_doesNow_72 : decode cX7_doesNow 72 = .ok (.ireturn, 1) := by decide +kernel
theorem dX7_doesNow_73 : decode cX7_doesNow 73 = .ok (.aload_n 0, 1) := by decide +kernel
theorem dX7_doesNow_74 : decode cX7_doesNow 74 = .ok (.iload_n 1, 1) := by decide +kernel
theorem dX7_doesNow_75 : decode cX7_doesNow 75 = .ok (.invokevirtual 137, 3) := by decide +kernel
theorem dX7_doesNow_78 : decode cX7_doesNow 78 = .ok (.ireturn, 1) := by decide +kernel
theorem dX7_doesNow_79 : decode cX7_doesNow 79 = .ok (.aload_n 0, 1) := by decide +kernel
theorem dX7_doesNow_80 : decode cX7_doesNow 80 = .ok (.iload_n 1, 1) := by decide +kernel
theorem dX7_doesNow_81 : decode cX7_doesNow 81 = .ok (.iload_n 2, 1) := by decide +kernel
theorem dX7_doesNow_82 : decode cX7_doesNow 82 = .ok (.invokevirtual 149, 3) := by decide +kernel
theorem dX7_doesNow_85 : decode cX7_doesNow 85 = .ok (.ireturn, 1) := by decide +kernel
theorem dX7_doesNow_86 : decode cX7_doesNow 86 = .ok (.aload_n 0, 1) := by decide +kernel
theorem dX7_doesNow_87 : decode cX7_doesNow 87 = .ok (.iload_n 1, 1) := by decide +kernel
theorem dX7_doesNow_88 : decode cX7_doesNow 88 = .ok (.invokevirtual 155, 3) := by decide +kernel
theorem dX7_doesNow_91 : decode cX7_doesNow 91 = .ok (.ireturn, 1) := by decide +kernel
theorem dX7_doesNow_92 : decode cX7_doesNow 92 = .ok (.aload_n 0, 1) := by decide +kernel
theorem dX7_doesNow_93 : decode cX7_doesNow 93 = .ok (.iload_n 1, 1) := by decide +kernel
theorem dX7_doesNow_94 : decode cX7_doesNow 94 = .ok (.iload_n 2, 1) := by decide +kernel
theorem dX7_doesNow_95 : decode cX7_doesNow 95 = .ok (.invokevirtual 143, 3) := by decide +kernel
theorem dX7_doesNow_98 : decode cX7_doesNow 98 = .ok (.ireturn, 1) := by decide +kernel
theorem dX7_doesNow_99 : decode cX7_doesNow 99 = .ok (.aload_n 0, 1) := by decide +kernel
theorem dX7_doesNow_100 : decode cX7_doesNow 100 = .ok (.iload_n 1, 1) := by decide +kernel
theorem dX7_doesNow_101 : decode cX7_doesNow 101 = .ok (.invokevirtual 164, 3) := by decide +kernel
theorem dX7_doesNow_104 : decode cX7_doesNow 104 = .ok (.ireturn, 1) := by decide +kernel
theorem dX7_doesNow_105 : decode cX7_doesNow 105 = .ok (.aload_n 0, 1) := by decide +kernel
theorem dX7_doesNow_106 : decode cX7_doesNow 106 = .ok (.iload_n 1, 1) := by decide +kernel
theorem dX7_doesNow_107 : decode cX7_doesNow 107 = .ok (.invokevirtual 192, 3) := by decide +kernel
theorem dX7_doesNow_110 : decode cX7_doesNow 110 = .ok (.ireturn, 1) := by decide +kernel
theorem dX7_doesAll_0 : decode cX7_doesAll 0 = .ok (.aload_n 0, 1) := by decide +kernel
theorem dX7_doesAll_1 : decode cX7_doesAll 1 = .ok (.iconst 0, 1) := by decide +kernel
theorem dX7_doesAll_2 : decode cX7_doesAll 2 = .ok (.putfield 229, 3) := by decide +kernel
theorem dX7_doesAll_5 : decode cX7_doesAll 5 = .ok (.aload_n 0, 1) := by decide +kernel
theorem dX7_doesAll_6 : decode cX7_doesAll 6 = .ok (.iconst 0, 1) := by decide +kernel
theorem dX7_doesAll_7 : decode cX7_doesAll 7 = .ok (.putfield 207, 3) := by decide +kernel
theorem dX7_doesAll_10 : decode cX7_doesAll 10 = .ok (.iconst 1, 1) := by decide +kernel
theorem dX7_doesAll_11 : decode cX7_doesAll 11 = .ok (.istore_n 1, 1) := by decide +kernel
theorem dX7_doesAll_12 : decode cX7_doesAll 12 = .ok (.iload_n 1, 1) := by decide +kernel
theorem dX7_doesAll_13 : decode cX7_doesAll 13 = .ok (.ifCond .eq 44, 3) := by decide +kernel
theorem dX7_doesAll_16 : decode cX7_doesAll 16 = .ok (.aload_n 0, 1) := by decide +kernel
theorem dX7_doesAll_17 : decode cX7_doesAll 17 = .ok (.invokevirtual 225, 3) := by decide +kernel
theorem dX7_doesAll_20 : decode cX7_doesAll 20 = .ok (.ifCond .eq 10, 3) := by decide +kernel
theorem dX7_doesAll_23 : decode cX7_doesAll 23 = .ok (.aload_n 0, 1) := by decide +kernel
theorem dX7_doesAll_24 : decode cX7_doesAll 24 = .ok (.invokevirtual 232, 3) := by decide +kernel
theorem dX7_doesAll_27 : decode cX7_doesAll 27 = .ok (.ifCond .eq 5, 3) := by decide +kernel
theorem dX7_doesAll_30 : decode cX7_doesAll 30 = .ok (.iconst 0, 1) := by decide +kernel
theorem dX7_doesAll_31 : decode cX7_doesAll 31 = .ok (.ireturn, 1) := by decide +kernel
theorem dX7_doesAll_32 : decode cX7_doesAll 32 = .ok (.aload_n 0, 1) := by decide +kernel
theorem dX7_doesAll_33 : decode cX7_doesAll 33 = .ok (.invokevirtual 235, 3) := by decide +kernel
theorem dX7_doesAll_36 : decode cX7_doesAll 36 = .ok (.pop, 1) := by decide +kernel
theorem dX7_doesAll_37 : decode cX7_doesAll 37 = .ok (.aload_n 0, 1) := by decide +kernel
theorem dX7_doesAll_38 : decode cX7_doesAll 38 = .ok (.dup, 1) := by decide +kernel
theorem dX7_doesAll_39 : decode cX7_doesAll 39 = .ok (.getfield 229, 3) := by decide +kernel
theorem dX7_doesAll_42 : decode cX7_doesAll 42 = .ok (.iconst 1, 1) := by decide +kernel
theorem dX7_doesAll_43 : decode cX7_doesAll 43 = .ok (.iadd, 1) := by decide +kernel
theorem dX7_doesAll_44 : decode cX7_doesAll 44 = .ok (.putfield 229, 3) := by decide +kernel
theorem dX7_doesAll_47 : decode cX7_doesAll 47 = .ok (.aload_n 0, 1) := by decide +kernel
theorem dX7_doesAll_48 : decode cX7_doesAll 48 = .ok (.bipush 59, 2) := by decide +kernel
theorem dX7_doesAll_50 : decode cX7_doesAll 50 = .ok (.invokevirtual 213, 3) := by decide +kernel
theorem dX7_doesAll_53 : decode cX7_doesAll 53 = .ok (.istore_n 1, 1) := by decide +kernel
theorem dX7_doesAll_54 : decode cX7_doesAll 54 = .ok (.goto (-42), 3) := by decide +kernel
theorem dX7_doesAll_57 : decode cX7_doesAll 57 = .ok (.iconst 1, 1) := by decide +kernel
theorem dX7_doesAll_58 : decode cX7_doesAll 58 = .ok (.ireturn, 1) := by decide +kernel
theorem dX7_run_0 : decode cX7_run 0 = .ok (.aload_n 0, 1) := by decide +kernel
theorem dX7_run_1 : decode cX7_run 1 = .ok (.invokevirtual 238, 3) := by decide +kernel
theorem dX7_run_4 : decode cX7_run 4 = .ok (.ifCond .ne 17, 3) := by decide +kernel
theorem dX7_run_7 : decode cX7_run 7 = .ok (.aload_n 0, 1) := by decide +kernel
theorem dX7_run_8 : decode cX7_run 8 = .ok (.iconst 0, 1) := by decide +kernel
theorem dX7_run_9 : decode cX7_run 9 = .ok (.putfield 204, 3) := by decide +kernel
theorem dX7_run_12 : decode cX7_run 12 = .ok (.sipush (-1000), 3) := by decide +kernel
theorem dX7_run_15 : decode cX7_run 15 = .ok (.aload_n 0, 1) := by decide +kernel
theorem dX7_run_16 : decode cX7_run 16 = .ok (.getfield 207, 3) := by decide +kernel
theorem dX7_run_19 : decode cX7_run 19 = .ok (.isub, 1) := by decide +kernel
theorem dX7_run_20 : decode cX7_run 20 = .ok (.ireturn, 1) := by decide +kernel
theorem dX7_run_21 : decode cX7_run 21 = .ok (.aload_n 0, 1) := by decide +kernel
theorem dX7_run_22 : decode cX7_run 22 = .ok (.invokevirtual 54, 3) := by decide +kernel
theorem dX7_run_25 : decode cX7_run 25 = .ok (.aload_n 0, 1) := by decide +kernel
theorem dX7_run_26 : decode cX7_run 26 = .ok (.invokevirtual 241, 3) := by decide +kernel
theorem dX7_run_29 : decode cX7_run 29 = .ok (.istore_n 1, 1) := by decide +kernel
theorem dX7_run_30 : decode cX7_run 30 = .ok (.aload_n 0, 1) := by decide +kernel
theorem dX7_run_31 : decode cX7_run 31 = .ok (.iconst 0, 1) := by decide +kernel
theorem dX7_run_32 : decode cX7_run 32 = .ok (.putfield 204, 3) := by decide +kernel
theorem dX7_run_35 : decode cX7_run 35 = .ok (.iload_n 1, 1) := by decide +kernel
theorem dX7_run_36 : decode cX7_run 36 = .ok (.ifCond .eq 12, 3) := by decide +kernel
theorem dX7_run_39 : decode cX7_run 39 = .ok (.aload_n 0, 1) := by decide +kernel
theorem dX7_run_40 : decode cX7_run 40 = .ok (.invokevirtual 57, 3) := by decide +kernel
theorem dX7_run_43 : decode cX7_run 43 = .ok (.aload_n 0, 1) := by decide +kernel
theorem dX7_run_44 : decode cX7_run 44 = .ok (.getfield 229, 3) := by decide +kernel
theorem dX7_run_47 : decode cX7_run 47 = .ok (.ireturn, 1) := by decide +kernel
theorem dX7_run_48 : decode cX7_run 48 = .ok (.aload_n 0, 1) := by decide +kernel
theorem dX7_run_49 : decode cX7_run 49 = .ok (.invokevirtual 195, 3) := by decide +kernel
theorem dX7_run_52 : decode cX7_run 52 = .ok (.aload_n 0, 1) := by decide +kernel
theorem dX7_run_53 : decode cX7_run 53 = .ok (.aload_n 0, 1) := by decide +kernel
theorem dX7_run_54 : decode cX7_run 54 = .ok (.bipush 11, 2) := by decide +kernel
theorem dX7_run_56 : decode cX7_run 56 = .ok (.aload_n 0, 1) := by decide +kernel
theorem dX7_run_57 : decode cX7_run 57 = .ok (.getfield 229, 3) := by decide +kernel
theorem dX7_run_60 : decode cX7_run 60 = .ok (.invokevirtual 84, 3) := by decide +kernel
theorem dX7_run_63 : decode cX7_run 63 = .ok (.invokevirtual 87, 3) := by decide +kernel
theorem dX7_run_66 : decode cX7_run 66 = .ok (.ireturn, 1) := by decide +kernel
theorem dX7_writes_0 : decode cX7_writes 0 = .ok (.aload_n 0, 1) := by decide +kernel
theorem dX7_writes_1 : decode cX7_writes 1 = .ok (.getfield 32, 3) := by decide +kernel
theorem dX7_writes_4 : decode cX7_writes 4 = .ok (.aload_n 0, 1) := by decide +kernel
theorem dX7_writes_5 : decode cX7_writes 5 = .ok (.getfield 244, 3) := by decide +kernel
theorem dX7_writes_8 : decode cX7_writes 8 = .ok (.iload_n 1, 1) := by decide +kernel
theorem dX7_writes_9 : decode cX7_writes 9 = .ok (.i2c, 1) := by decide +kernel
theorem dX7_writes_10 : decode cX7_writes 10 = .ok (.castore, 1) := by decide +kernel
theorem dX7_writes_11 : decode cX7_writes 11 = .ok (.aload_n 0, 1) := by decide +kernel
theorem dX7_writes_12 : decode cX7_writes 12 = .ok (.dup, 1) := by decide +kernel
theorem dX7_writes_13 : decode cX7_writes 13 = .ok (.getfield 244, 3) := by decide +kernel
theorem dX7_writes_16 : decode cX7_writes 16 = .ok (.iconst 1, 1) := by decide +kernel
theorem dX7_writes_17 : decode cX7_writes 17 = .ok (.iadd, 1) := by decide +kernel
theorem dX7_writes_18 : decode cX7_writes 18 = .ok (.putfield 244, 3) := by decide +kernel
theorem dX7_writes_21 : decode cX7_writes 21 = .ok (.return_, 1) := by decide +kernel
theorem dX7_writesNumber_0 : decode cX7_writesNumber 0 = .ok (.iload_n 1, 1) := by decide +kernel
theorem dX7_writesNumber_1 : decode cX7_writesNumber 1 = .ok (.bipush 9, 2) := by decide +kernel
theorem dX7_writesNumber_3 : decode cX7_writesNumber 3 = .ok (.if_icmp .le 14, 3) := by decide +kernel
theorem dX7_writesNumber_6 : decode cX7_writesNumber 6 = .ok (.aload_n 0, 1) := by decide +kernel
theorem dX7_writesNumber_7 : decode cX7_writesNumber 7 = .ok (.bipush 48, 2) := by decide +kernel
theorem dX7_writesNumber_9 : decode cX7_writesNumber 9 = .ok (.iload_n 1, 1) := by decide +kernel
theorem dX7_writesNumber_10 : decode cX7_writesNumber 10 = .ok (.bipush 10, 2) := by decide +kernel
theorem dX7_writesNumber_12 : decode cX7_writesNumber 12 = .ok (.idiv, 1) := by decide +kernel
theorem dX7_writesNumber_13 : decode cX7_writesNumber 13 = .ok (.iadd, 1) := by decide +kernel
theorem dX7_writesNumber_14 : decode cX7_writesNumber 14 = .ok (.invokevirtual 247, 3) := by decide +kernel
theorem dX7_writesNumber_17 : decode cX7_writesNumber 17 = .ok (.aload_n 0, 1) := by decide +kernel
theorem dX7_writesNumber_18 : decode cX7_writesNumber 18 = .ok (.bipush 48, 2) := by decide +kernel
theorem dX7_writesNumber_20 : decode cX7_writesNumber 20 = .ok (.iload_n 1, 1) := by decide +kernel
theorem dX7_writesNumber_21 : decode cX7_writesNumber 21 = .ok (.bipush 10, 2) := by decide +kernel
theorem dX7_writesNumber_23 : decode cX7_writesNumber 23 = .ok (.irem, 1) := by decide +kernel
theorem dX7_writesNumber_24 : decode cX7_writesNumber 24 = .ok (.iadd, 1) := by decide +kernel
theorem dX7_writesNumber_25 : decode cX7_writesNumber 25 = .ok (.invokevirtual 247, 3) := by decide +kernel
theorem dX7_writesNumber_28 : decode cX7_writesNumber 28 = .ok (.return_, 1) := by decide +kernel
theorem dX7_writesCell_0 : decode cX7_writesCell 0 = .ok (.aload_n 0, 1) := by decide +kernel
theorem dX7_writesCell_1 : decode cX7_writesCell 1 = .ok (.iload_n 1, 1) := by decide +kernel
theorem dX7_writesCell_2 : decode cX7_writesCell 2 = .ok (.invokevirtual 122, 3) := by decide +kernel
theorem dX7_writesCell_5 : decode cX7_writesCell 5 = .ok (.istore_n 2, 1) := by decide +kernel
theorem dX7_writesCell_6 : decode cX7_writesCell 6 = .ok (.iload_n 2, 1) := by decide +kernel
theorem dX7_writesCell_7 : decode cX7_writesCell 7 = .ok (.ifCond .ge 10, 3) := by decide +kernel
theorem dX7_writesCell_10 : decode cX7_writesCell 10 = .ok (.aload_n 0, 1) := by decide +kernel
theorem dX7_writesCell_11 : decode cX7_writesCell 11 = .ok (.bipush 45, 2) := by decide +kernel
theorem dX7_writesCell_13 : decode cX7_writesCell 13 = .ok (.invokevirtual 247, 3) := by decide +kernel
theorem dX7_writesCell_16 : decode cX7_writesCell 16 = .ok (.return_, 1) := by decide +kernel
theorem dX7_writesCell_17 : decode cX7_writesCell 17 = .ok (.aload_n 0, 1) := by decide +kernel
theorem dX7_writesCell_18 : decode cX7_writesCell 18 = .ok (.iload_n 2, 1) := by decide +kernel
theorem dX7_writesCell_19 : decode cX7_writesCell 19 = .ok (.invokevirtual 250, 3) := by decide +kernel
theorem dX7_writesCell_22 : decode cX7_writesCell 22 = .ok (.aload_n 0, 1) := by decide +kernel
theorem dX7_writesCell_23 : decode cX7_writesCell 23 = .ok (.iload_n 2, 1) := by decide +kernel
theorem dX7_writesCell_24 : decode cX7_writesCell 24 = .ok (.iconst 5, 1) := by decide +kernel
theorem dX7_writesCell_25 : decode cX7_writesCell 25 = .ok (.invokevirtual 64, 3) := by decide +kernel
theorem dX7_writesCell_28 : decode cX7_writesCell 28 = .ok (.ifCond .le 9, 3) := by decide +kernel
theorem dX7_writesCell_31 : decode cX7_writesCell 31 = .ok (.aload_n 0, 1) := by decide +kernel
theorem dX7_writesCell_32 : decode cX7_writesCell 32 = .ok (.bipush 33, 2) := by decide +kernel
theorem dX7_writesCell_34 : decode cX7_writesCell 34 = .ok (.invokevirtual 247, 3) := by decide +kernel
theorem dX7_writesCell_37 : decode cX7_writesCell 37 = .ok (.aload_n 0, 1) := by decide +kernel
theorem dX7_writesCell_38 : decode cX7_writesCell 38 = .ok (.iload_n 2, 1) := by decide +kernel
theorem dX7_writesCell_39 : decode cX7_writesCell 39 = .ok (.iconst 4, 1) := by decide +kernel
theorem dX7_writesCell_40 : decode cX7_writesCell 40 = .ok (.invokevirtual 64, 3) := by decide +kernel
theorem dX7_writesCell_43 : decode cX7_writesCell 43 = .ok (.iconst 2, 1) := by decide +kernel
theorem dX7_writesCell_44 : decode cX7_writesCell 44 = .ok (.if_icmp .lt 9, 3) := by decide +kernel
theorem dX7_writesCell_47 : decode cX7_writesCell 47 = .ok (.aload_n 0, 1) := by decide +kernel
theorem dX7_writesCell_48 : decode cX7_writesCell 48 = .ok (.bipush 42, 2) := by decide +kernel
theorem dX7_writesCell_50 : decode cX7_writesCell 50 = .ok (.invokevirtual 247, 3) := by decide +kernel
theorem dX7_writesCell_53 : decode cX7_writesCell 53 = .ok (.return_, 1) := by decide +kernel
theorem dX7_tell_0 : decode cX7_tell 0 = .ok (.aload_n 0, 1) := by decide +kernel
theorem dX7_tell_1 : decode cX7_tell 1 = .ok (.iconst 0, 1) := by decide +kernel
theorem dX7_tell_2 : decode cX7_tell 2 = .ok (.putfield 244, 3) := by decide +kernel
theorem dX7_tell_5 : decode cX7_tell 5 = .ok (.iconst 0, 1) := by decide +kernel
theorem dX7_tell_6 : decode cX7_tell 6 = .ok (.istore_n 1, 1) := by decide +kernel
theorem dX7_tell_7 : decode cX7_tell 7 = .ok (.iload_n 1, 1) := by decide +kernel
theorem dX7_tell_8 : decode cX7_tell 8 = .ok (.bipush 8, 2) := by decide +kernel
theorem dX7_tell_10 : decode cX7_tell 10 = .ok (.if_icmp .ge 24, 3) := by decide +kernel
theorem dX7_tell_13 : decode cX7_tell 13 = .ok (.iload_n 1, 1) := by decide +kernel
theorem dX7_tell_14 : decode cX7_tell 14 = .ok (.ifCond .le 9, 3) := by decide +kernel
theorem dX7_tell_17 : decode cX7_tell 17 = .ok (.aload_n 0, 1) := by decide +kernel
theorem dX7_tell_18 : decode cX7_tell 18 = .ok (.bipush 32, 2) := by decide +kernel
theorem dX7_tell_20 : decode cX7_tell 20 = .ok (.invokevirtual 247, 3) := by decide +kernel
theorem dX7_tell_23 : decode cX7_tell 23 = .ok (.aload_n 0, 1) := by decide +kernel
theorem dX7_tell_24 : decode cX7_tell 24 = .ok (.iload_n 1, 1) := by decide +kernel
theorem dX7_tell_25 : decode cX7_tell 25 = .ok (.invokevirtual 253, 3) := by decide +kernel
theorem dX7_tell_28 : decode cX7_tell 28 = .ok (.iinc 1 1, 3) := by decide +kernel
theorem dX7_tell_31 : decode cX7_tell 31 = .ok (.goto (-24), 3) := by decide +kernel
theorem dX7_tell_34 : decode cX7_tell 34 = .ok (.aload_n 0, 1) := by decide +kernel
theorem dX7_tell_35 : decode cX7_tell 35 = .ok (.getfield 244, 3) := by decide +kernel
theorem dX7_tell_38 : decode cX7_tell 38 = .ok (.ireturn, 1) := by decide +kernel
theorem dX7_inLine_0 : decode cX7_inLine 0 = .ok (.iconst 0, 1) := by decide +kernel
theorem dX7_inLine_1 : decode cX7_inLine 1 = .ok (.istore_n 2, 1) := by decide +kernel
theorem dX7_inLine_2 : decode cX7_inLine 2 = .ok (.iload_n 2, 1) := by decide +kernel
theorem dX7_inLine_3 : decode cX7_inLine 3 = .ok (.aload_n 0, 1) := by decide +kernel
theorem dX7_inLine_4 : decode cX7_inLine 4 = .ok (.getfield 7, 3) := by decide +kernel
theorem dX7_inLine_7 : decode cX7_inLine 7 = .ok (.iconst 2, 1) := by decide +kernel
theorem dX7_inLine_8 : decode cX7_inLine 8 = .ok (.iaload, 1) := by decide +kernel
theorem dX7_inLine_9 : decode cX7_inLine 9 = .ok (.if_icmp .ge 29, 3) := by decide +kernel
theorem dX7_inLine_12 : decode cX7_inLine 12 = .ok (.aload_n 0, 1) := by decide +kernel
theorem dX7_inLine_13 : decode cX7_inLine 13 = .ok (.iload_n 2, 1) := by decide +kernel
theorem dX7_inLine_14 : decode cX7_inLine 14 = .ok (.iconst 0, 1) := by decide +kernel
theorem dX7_inLine_15 : decode cX7_inLine 15 = .ok (.invokevirtual 68, 3) := by decide +kernel
theorem dX7_inLine_18 : decode cX7_inLine 18 = .ok (.ifCond .eq 14, 3) := by decide +kernel
theorem dX7_inLine_21 : decode cX7_inLine 21 = .ok (.aload_n 0, 1) := by decide +kernel
theorem dX7_inLine_22 : decode cX7_inLine 22 = .ok (.iload_n 2, 1) := by decide +kernel
theorem dX7_inLine_23 : decode cX7_inLine 23 = .ok (.invokevirtual 201, 3) := by decide +kernel
theorem dX7_inLine_26 : decode cX7_inLine 26 = .ok (.iload_n 1, 1) := by decide +kernel
theorem dX7_inLine_27 : decode cX7_inLine 27 = .ok (.if_icmp .ne 5, 3) := by decide +kernel
theorem dX7_inLine_30 : decode cX7_inLine 30 = .ok (.iload_n 2, 1) := by decide +kernel
theorem dX7_inLine_31 : decode cX7_inLine 31 = .ok (.ireturn, 1) := by decide +kernel
theorem dX7_inLine_32 : decode cX7_inLine 32 = .ok (.iinc 2 1, 3) := by decide +kernel
theorem dX7_inLine_35 : decode cX7_inLine 35 = .ok (.goto (-33), 3) := by decide +kernel
theorem dX7_inLine_38 : decode cX7_inLine 38 = .ok (.bipush (-11), 2) := by decide +kernel
theorem dX7_inLine_40 : decode cX7_inLine 40 = .ok (.ireturn, 1) := by decide +kernel
theorem dX7_tellWaiting_0 : decode cX7_tellWaiting 0 = .ok (.aload_n 0, 1) := by decide +kernel
theorem dX7_tellWaiting_1 : decode cX7_tellWaiting 1 = .ok (.iconst 0, 1) := by decide +kernel
theorem dX7_tellWaiting_2 : decode cX7_tellWaiting 2 = .ok (.putfield 244, 3) := by decide +kernel
theorem dX7_tellWaiting_5 : decode cX7_tellWaiting 5 = .ok (.iconst 0, 1) := by decide +kernel
theorem dX7_tellWaiting_6 : decode cX7_tellWaiting 6 = .ok (.istore_n 1, 1) := by decide +kernel
theorem dX7_tellWaiting_7 : decode cX7_tellWaiting 7 = .ok (.iload_n 1, 1) := by decide +kernel
theorem dX7_tellWaiting_8 : decode cX7_tellWaiting 8 = .ok (.aload_n 0, 1) := by decide +kernel
theorem dX7_tellWaiting_9 : decode cX7_tellWaiting 9 = .ok (.iconst 0, 1) := by decide +kernel
theorem dX7_tellWaiting_10 : decode cX7_tellWaiting 10 = .ok (.invokevirtual 104, 3) := by decide +kernel
theorem dX7_tellWaiting_13 : decode cX7_tellWaiting 13 = .ok (.if_icmp .ge 61, 3) := by decide +kernel
theorem dX7_tellWaiting_16 : decode cX7_tellWaiting 16 = .ok (.aload_n 0, 1) := by decide +kernel
theorem dX7_tellWaiting_17 : decode cX7_tellWaiting 17 = .ok (.iload_n 1, 1) := by decide +kernel
theorem dX7_tellWaiting_18 : decode cX7_tellWaiting 18 = .ok (.invokevirtual 256, 3) := by decide +kernel
theorem dX7_tellWaiting_21 : decode cX7_tellWaiting 21 = .ok (.istore_n 2, 1) := by decide +kernel
theorem dX7_tellWaiting_22 : decode cX7_tellWaiting 22 = .ok (.iload_n 1, 1) := by decide +kernel
theorem dX7_tellWaiting_23 : decode cX7_tellWaiting 23 = .ok (.ifCond .le 9, 3) := by decide +kernel
theorem dX7_tellWaiting_26 : decode cX7_tellWaiting 26 = .ok (.aload_n 0, 1) := by decide +kernel
theorem dX7_tellWaiting_27 : decode cX7_tellWaiting 27 = .ok (.bipush 44, 2) := by decide +kernel
theorem dX7_tellWaiting_29 : decode cX7_tellWaiting 29 = .ok (.invokevirtual 247, 3) := by decide +kernel
theorem dX7_tellWaiting_32 : decode cX7_tellWaiting 32 = .ok (.aload_n 0, 1) := by decide +kernel
theorem dX7_tellWaiting_33 : decode cX7_tellWaiting 33 = .ok (.iload_n 2, 1) := by decide +kernel
theorem dX7_tellWaiting_34 : decode cX7_tellWaiting 34 = .ok (.invokevirtual 250, 3) := by decide +kernel
theorem dX7_tellWaiting_37 : decode cX7_tellWaiting 37 = .ok (.aload_n 0, 1) := by decide +kernel
theorem dX7_tellWaiting_38 : decode cX7_tellWaiting 38 = .ok (.iload_n 2, 1) := by decide +kernel
theorem dX7_tellWaiting_39 : decode cX7_tellWaiting 39 = .ok (.iconst 1, 1) := by decide +kernel
theorem dX7_tellWaiting_40 : decode cX7_tellWaiting 40 = .ok (.invokevirtual 64, 3) := by decide +kernel
theorem dX7_tellWaiting_43 : decode cX7_tellWaiting 43 = .ok (.iconst 1, 1) := by decide +kernel
theorem dX7_tellWaiting_44 : decode cX7_tellWaiting 44 = .ok (.if_icmp .ne 9, 3) := by decide +kernel
theorem dX7_tellWaiting_47 : decode cX7_tellWaiting 47 = .ok (.aload_n 0, 1) := by decide +kernel
theorem dX7_tellWaiting_48 : decode cX7_tellWaiting 48 = .ok (.bipush 107, 2) := by decide +kernel
theorem dX7_tellWaiting_50 : decode cX7_tellWaiting 50 = .ok (.invokevirtual 247, 3) := by decide +kernel
theorem dX7_tellWaiting_53 : decode cX7_tellWaiting 53 = .ok (.aload_n 0, 1) := by decide +kernel
theorem dX7_tellWaiting_54 : decode cX7_tellWaiting 54 = .ok (.bipush 58, 2) := by decide +kernel
theorem dX7_tellWaiting_56 : decode cX7_tellWaiting 56 = .ok (.invokevirtual 247, 3) := by decide +kernel
theorem dX7_tellWaiting_59 : decode cX7_tellWaiting 59 = .ok (.aload_n 0, 1) := by decide +kernel
theorem dX7_tellWaiting_60 : decode cX7_tellWaiting 60 = .ok (.aload_n 0, 1) := by decide +kernel
theorem dX7_tellWaiting_61 : decode cX7_tellWaiting 61 = .ok (.iload_n 2, 1) := by decide +kernel
theorem dX7_tellWaiting_62 : decode cX7_tellWaiting 62 = .ok (.invokevirtual 107, 3) := by decide +kernel
theorem dX7_tellWaiting_65 : decode cX7_tellWaiting 65 = .ok (.invokevirtual 250, 3) := by decide +kernel
theorem dX7_tellWaiting_68 : decode cX7_tellWaiting 68 = .ok (.iinc 1 1, 3) := by decide +kernel
theorem dX7_tellWaiting_71 : decode cX7_tellWaiting 71 = .ok (.goto (-64), 3) := by decide +kernel
theorem dX7_tellWaiting_74 : decode cX7_tellWaiting 74 = .ok (.aload_n 0, 1) := by decide +kernel
theorem dX7_tellWaiting_75 : decode cX7_tellWaiting 75 = .ok (.getfield 244, 3) := by decide +kernel
theorem dX7_tellWaiting_78 : decode cX7_tellWaiting 78 = .ok (.ireturn, 1) := by decide +kernel
theorem dX7_character_0 : decode cX7_character 0 = .ok (.iload_n 1, 1) := by decide +kernel
theorem dX7_character_1 : decode cX7_character 1 = .ok (.iconst 0, 1) := by decide +kernel
theorem dX7_character_2 : decode cX7_character 2 = .ok (.aload_n 0, 1) := by decide +kernel
theorem dX7_character_3 : decode cX7_character 3 = .ok (.getfield 244, 3) := by decide +kernel
theorem dX7_character_6 : decode cX7_character 6 = .ok (.iconst 1, 1) := by decide +kernel
theorem dX7_character_7 : decode cX7_character 7 = .ok (.isub, 1) := by decide +kernel
theorem dX7_character_8 : decode cX7_character 8 = .ok (.invokestatic 60, 3) := by decide +kernel
theorem dX7_character_11 : decode cX7_character 11 = .ok (.ifCond .eq 12, 3) := by decide +kernel
theorem dX7_character_14 : decode cX7_character 14 = .ok (.aload_n 0, 1) := by decide +kernel
theorem dX7_character_15 : decode cX7_character 15 = .ok (.getfield 32, 3) := by decide +kernel
theorem dX7_character_18 : decode cX7_character 18 = .ok (.iload_n 1, 1) := by decide +kernel
theorem dX7_character_19 : decode cX7_character 19 = .ok (.caload, 1) := by decide +kernel
theorem dX7_character_20 : decode cX7_character 20 = .ok (.goto 5, 3) := by decide +kernel
theorem dX7_character_23 : decode cX7_character 23 = .ok (.bipush (-11), 2) := by decide +kernel
theorem dX7_character_25 : decode cX7_character 25 = .ok (.ireturn, 1) := by decide +kernel
theorem dX7_banned_0 : decode cX7_banned 0 = .ok (.iconst 0, 1) := by decide +kernel
theorem dX7_banned_1 : decode cX7_banned 1 = .ok (.istore_n 1, 1) := by decide +kernel
theorem dX7_banned_2 : decode cX7_banned 2 = .ok (.iconst 0, 1) := by decide +kernel
theorem dX7_banned_3 : decode cX7_banned 3 = .ok (.istore_n 2, 1) := by decide +kernel
theorem dX7_banned_4 : decode cX7_banned 4 = .ok (.iload_n 2, 1) := by decide +kernel
theorem dX7_banned_5 : decode cX7_banned 5 = .ok (.aload_n 0, 1) := by decide +kernel
theorem dX7_banned_6 : decode cX7_banned 6 = .ok (.getfield 7, 3) := by decide +kernel
theorem dX7_banned_9 : decode cX7_banned 9 = .ok (.iconst 2, 1) := by decide +kernel
theorem dX7_banned_10 : decode cX7_banned 10 = .ok (.iaload, 1) := by decide +kernel
theorem dX7_banned_11 : decode cX7_banned 11 = .ok (.if_icmp .ge 26, 3) := by decide +kernel
theorem dX7_banned_14 : decode cX7_banned 14 = .ok (.iload_n 1, 1) := by decide +kernel
theorem dX7_banned_15 : decode cX7_banned 15 = .ok (.aload_n 0, 1) := by decide +kernel
theorem dX7_banned_16 : decode cX7_banned 16 = .ok (.iload_n 2, 1) := by decide +kernel
theorem dX7_banned_17 : decode cX7_banned 17 = .ok (.iconst 5, 1) := by decide +kernel
theorem dX7_banned_18 : decode cX7_banned 18 = .ok (.invokevirtual 64, 3) := by decide +kernel
theorem dX7_banned_21 : decode cX7_banned 21 = .ok (.ifCond .le 7, 3) := by decide +kernel
theorem dX7_banned_24 : decode cX7_banned 24 = .ok (.iconst 1, 1) := by decide +kernel
theorem dX7_banned_25 : decode cX7_banned 25 = .ok (.goto 4, 3) := by decide +kernel
theorem dX7_banned_28 : decode cX7_banned 28 = .ok (.iconst 0, 1) := by decide +kernel
theorem dX7_banned_29 : decode cX7_banned 29 = .ok (.iadd, 1) := by decide +kernel
theorem dX7_banned_30 : decode cX7_banned 30 = .ok (.istore_n 1, 1) := by decide +kernel
theorem dX7_banned_31 : decode cX7_banned 31 = .ok (.iinc 2 1, 3) := by decide +kernel
theorem dX7_banned_34 : decode cX7_banned 34 = .ok (.goto (-30), 3) := by decide +kernel
theorem dX7_banned_37 : decode cX7_banned 37 = .ok (.iload_n 1, 1) := by decide +kernel
theorem dX7_banned_38 : decode cX7_banned 38 = .ok (.ireturn, 1) := by decide +kernel
theorem dX7_gotAll_0 : decode cX7_gotAll 0 = .ok (.iconst 0, 1) := by decide +kernel
theorem dX7_gotAll_1 : decode cX7_gotAll 1 = .ok (.istore_n 1, 1) := by decide +kernel
theorem dX7_gotAll_2 : decode cX7_gotAll 2 = .ok (.iconst 0, 1) := by decide +kernel
theorem dX7_gotAll_3 : decode cX7_gotAll 3 = .ok (.istore_n 2, 1) := by decide +kernel
theorem dX7_gotAll_4 : decode cX7_gotAll 4 = .ok (.iload_n 2, 1) := by decide +kernel
theorem dX7_gotAll_5 : decode cX7_gotAll 5 = .ok (.aload_n 0, 1) := by decide +kernel
theorem dX7_gotAll_6 : decode cX7_gotAll 6 = .ok (.getfield 7, 3) := by decide +kernel
theorem dX7_gotAll_9 : decode cX7_gotAll 9 = .ok (.iconst 2, 1) := by decide +kernel
theorem dX7_gotAll_10 : decode cX7_gotAll 10 = .ok (.iaload, 1) := by decide +kernel
theorem dX7_gotAll_11 : decode cX7_gotAll 11 = .ok (.if_icmp .ge 19, 3) := by decide +kernel
theorem dX7_gotAll_14 : decode cX7_gotAll 14 = .ok (.iload_n 1, 1) := by decide +kernel
theorem dX7_gotAll_15 : decode cX7_gotAll 15 = .ok (.aload_n 0, 1) := by decide +kernel
theorem dX7_gotAll_16 : decode cX7_gotAll 16 = .ok (.iload_n 2, 1) := by decide +kernel
theorem dX7_gotAll_17 : decode cX7_gotAll 17 = .ok (.bipush 6, 2) := by decide +kernel
theorem dX7_gotAll_19 : decode cX7_gotAll 19 = .ok (.invokevirtual 64, 3) := by decide +kernel
theorem dX7_gotAll_22 : decode cX7_gotAll 22 = .ok (.iadd, 1) := by decide +kernel
theorem dX7_gotAll_23 : decode cX7_gotAll 23 = .ok (.istore_n 1, 1) := by decide +kernel
theorem dX7_gotAll_24 : decode cX7_gotAll 24 = .ok (.iinc 2 1, 3) := by decide +kernel
theorem dX7_gotAll_27 : decode cX7_gotAll 27 = .ok (.goto (-23), 3) := by decide +kernel
theorem dX7_gotAll_30 : decode cX7_gotAll 30 = .ok (.iload_n 1, 1) := by decide +kernel
theorem dX7_gotAll_31 : decode cX7_gotAll 31 = .ok (.ireturn, 1) := by decide +kernel
theorem dX7_account_0 : decode cX7_account 0 = .ok (.iload_n 1, 1) := by decide +kernel
theorem dX7_account_1 : decode cX7_account 1 = .ok (.tableswitch 131 0 16 #[83, 83, 83, 90, 90, 90, 90, 98, 103, 111, 111, 111, 111, 111, 111, 121, 126], 83) := by decide +kernel
theorem dX7_account_84 : decode cX7_account 84 = .ok (.aload_n 0, 1) := by decide +kernel
theorem dX7_account_85 : decode cX7_account 85 = .ok (.getfield 7, 3) := by decide +kernel
theorem dX7_account_88 : decode cX7_account 88 = .ok (.iload_n 1, 1) := by decide +kernel
theorem dX7_account_89 : decode cX7_account 89 = .ok (.iaload, 1) := by decide +kernel
theorem dX7_account_90 : decode cX7_account 90 = .ok (.ireturn, 1) := by decide +kernel
theorem dX7_account_91 : decode cX7_account 91 = .ok (.aload_n 0, 1) := by decide +kernel
theorem dX7_account_92 : decode cX7_account 92 = .ok (.iload_n 1, 1) := by decide +kernel
theorem dX7_account_93 : decode cX7_account 93 = .ok (.iconst 3, 1) := by decide +kernel
theorem dX7_account_94 : decode cX7_account 94 = .ok (.isub, 1) := by decide +kernel
theorem dX7_account_95 : decode cX7_account 95 = .ok (.invokevirtual 104, 3) := by decide +kernel
theorem dX7_account_98 : decode cX7_account 98 = .ok (.ireturn, 1) := by decide +kernel
theorem dX7_account_99 : decode cX7_account 99 = .ok (.aload_n 0, 1) := by decide +kernel
theorem dX7_account_100 : decode cX7_account 100 = .ok (.invokevirtual 259, 3) := by decide +kernel
theorem dX7_account_103 : decode cX7_account 103 = .ok (.ireturn, 1) := by decide +kernel
theorem dX7_account_104 : decode cX7_account 104 = .ok (.aload_n 0, 1) := by decide +kernel
theorem dX7_account_105 : decode cX7_account 105 = .ok (.getfield 7, 3) := by decide +kernel
theorem dX7_account_108 : decode cX7_account 108 = .ok (.bipush 9, 2) := by decide +kernel
theorem dX7_account_110 : decode cX7_account 110 = .ok (.iaload, 1) := by decide +kernel
theorem dX7_account_111 : decode cX7_account 111 = .ok (.ireturn, 1) := by decide +kernel
theorem dX7_account_112 : decode cX7_account 112 = .ok (.aload_n 0, 1) := by decide +kernel
theorem dX7_account_113 : decode cX7_account 113 = .ok (.getfield 7, 3) := by decide +kernel
theorem dX7_account_116 : decode cX7_account 116 = .ok (.iload_n 1, 1) := by decide +kernel
theorem dX7_account_117 : decode cX7_account 117 = .ok (.bipush 6, 2) := by decide +kernel
theorem dX7_account_119 : decode cX7_account 119 = .ok (.isub, 1) := by decide +kernel
theorem dX7_account_120 : decode cX7_account 120 = .ok (.iaload, 1) := by decide +kernel
theorem dX7_account_121 : decode cX7_account 121 = .ok (.ireturn, 1) := by decide +kernel
theorem dX7_account_122 : decode cX7_account 122 = .ok (.aload_n 0, 1) := by decide +kernel
theorem dX7_account_123 : decode cX7_account 123 = .ok (.getfield 204, 3) := by decide +kernel
theorem dX7_account_126 : decode cX7_account 126 = .ok (.ireturn, 1) := by decide +kernel
theorem dX7_account_127 : decode cX7_account 127 = .ok (.aload_n 0, 1) := by decide +kernel
theorem dX7_account_128 : decode cX7_account 128 = .ok (.getfield 48, 3) := by decide +kernel
theorem dX7_account_131 : decode cX7_account 131 = .ok (.ireturn, 1) := by decide +kernel
theorem dX7_account_132 : decode cX7_account 132 = .ok (.bipush (-12), 2) := by decide +kernel
theorem dX7_account_134 : decode cX7_account 134 = .ok (.ireturn, 1) := by decide +kernel
theorem dX7_isBalanced_0 : decode cX7_isBalanced 0 = .ok (.aload_n 0, 1) := by decide +kernel
theorem dX7_isBalanced_1 : decode cX7_isBalanced 1 = .ok (.getfield 7, 3) := by decide +kernel
theorem dX7_isBalanced_4 : decode cX7_isBalanced 4 = .ok (.iconst 3, 1) := by decide +kernel
theorem dX7_isBalanced_5 : decode cX7_isBalanced 5 = .ok (.iaload, 1) := by decide +kernel
theorem dX7_isBalanced_6 : decode cX7_isBalanced 6 = .ok (.bipush 100, 2) := by decide +kernel
theorem dX7_isBalanced_8 : decode cX7_isBalanced 8 = .ok (.aload_n 0, 1) := by decide +kernel
theorem dX7_isBalanced_9 : decode cX7_isBalanced 9 = .ok (.getfield 7, 3) := by decide +kernel
theorem dX7_isBalanced_12 : decode cX7_isBalanced 12 = .ok (.iconst 4, 1) := by decide +kernel
theorem dX7_isBalanced_13 : decode cX7_isBalanced 13 = .ok (.iaload, 1) := by decide +kernel
theorem dX7_isBalanced_14 : decode cX7_isBalanced 14 = .ok (.iadd, 1) := by decide +kernel
theorem dX7_isBalanced_15 : decode cX7_isBalanced 15 = .ok (.aload_n 0, 1) := by decide +kernel
theorem dX7_isBalanced_16 : decode cX7_isBalanced 16 = .ok (.getfield 7, 3) := by decide +kernel
theorem dX7_isBalanced_19 : decode cX7_isBalanced 19 = .ok (.iconst 5, 1) := by decide +kernel
theorem dX7_isBalanced_20 : decode cX7_isBalanced 20 = .ok (.iaload, 1) := by decide +kernel
theorem dX7_isBalanced_21 : decode cX7_isBalanced 21 = .ok (.isub, 1) := by decide +kernel
theorem dX7_isBalanced_22 : decode cX7_isBalanced 22 = .ok (.aload_n 0, 1) := by decide +kernel
theorem dX7_isBalanced_23 : decode cX7_isBalanced 23 = .ok (.getfield 7, 3) := by decide +kernel
theorem dX7_isBalanced_26 : decode cX7_isBalanced 26 = .ok (.bipush 6, 2) := by decide +kernel
theorem dX7_isBalanced_28 : decode cX7_isBalanced 28 = .ok (.iaload, 1) := by decide +kernel
theorem dX7_isBalanced_29 : decode cX7_isBalanced 29 = .ok (.isub, 1) := by decide +kernel
theorem dX7_isBalanced_30 : decode cX7_isBalanced 30 = .ok (.if_icmp .ne 20, 3) := by decide +kernel
theorem dX7_isBalanced_33 : decode cX7_isBalanced 33 = .ok (.aload_n 0, 1) := by decide +kernel
theorem dX7_isBalanced_34 : decode cX7_isBalanced 34 = .ok (.getfield 7, 3) := by decide +kernel
theorem dX7_isBalanced_37 : decode cX7_isBalanced 37 = .ok (.iconst 5, 1) := by decide +kernel
theorem dX7_isBalanced_38 : decode cX7_isBalanced 38 = .ok (.iaload, 1) := by decide +kernel
theorem dX7_isBalanced_39 : decode cX7_isBalanced 39 = .ok (.aload_n 0, 1) := by decide +kernel
theorem dX7_isBalanced_40 : decode cX7_isBalanced 40 = .ok (.invokevirtual 262, 3) := by decide +kernel
theorem dX7_isBalanced_43 : decode cX7_isBalanced 43 = .ok (.if_icmp .ne 7, 3) := by decide +kernel
theorem dX7_isBalanced_46 : decode cX7_isBalanced 46 = .ok (.iconst 1, 1) := by decide +kernel
theorem dX7_isBalanced_47 : decode cX7_isBalanced 47 = .ok (.goto 4, 3) := by decide +kernel
theorem dX7_isBalanced_50 : decode cX7_isBalanced 50 = .ok (.iconst 0, 1) := by decide +kernel
theorem dX7_isBalanced_51 : decode cX7_isBalanced 51 = .ok (.istore_n 1, 1) := by decide +kernel
theorem dX7_isBalanced_52 : decode cX7_isBalanced 52 = .ok (.iconst 0, 1) := by decide +kernel
theorem dX7_isBalanced_53 : decode cX7_isBalanced 53 = .ok (.istore_n 2, 1) := by decide +kernel
theorem dX7_isBalanced_54 : decode cX7_isBalanced 54 = .ok (.iconst 0, 1) := by decide +kernel
theorem dX7_isBalanced_55 : decode cX7_isBalanced 55 = .ok (.istore_n 3, 1) := by decide +kernel
theorem dX7_isBalanced_56 : decode cX7_isBalanced 56 = .ok (.iload_n 3, 1) := by decide +kernel
theorem dX7_isBalanced_57 : decode cX7_isBalanced 57 = .ok (.bipush 8, 2) := by decide +kernel
theorem dX7_isBalanced_59 : decode cX7_isBalanced 59 = .ok (.if_icmp .ge 25, 3) := by decide +kernel
theorem dX7_isBalanced_62 : decode cX7_isBalanced 62 = .ok (.iload_n 2, 1) := by decide +kernel
theorem dX7_isBalanced_63 : decode cX7_isBalanced 63 = .ok (.aload_n 0, 1) := by decide +kernel
theorem dX7_isBalanced_64 : decode cX7_isBalanced 64 = .ok (.iload_n 3, 1) := by decide +kernel
theorem dX7_isBalanced_65 : decode cX7_isBalanced 65 = .ok (.invokevirtual 122, 3) := by decide +kernel
theorem dX7_isBalanced_68 : decode cX7_isBalanced 68 = .ok (.ifCond .lt 7, 3) := by decide +kernel
theorem dX7_isBalanced_71 : decode cX7_isBalanced 71 = .ok (.iconst 1, 1) := by decide +kernel
theorem dX7_isBalanced_72 : decode cX7_isBalanced 72 = .ok (.goto 4, 3) := by decide +kernel
theorem dX7_isBalanced_75 : decode cX7_isBalanced 75 = .ok (.iconst 0, 1) := by decide +kernel
theorem dX7_isBalanced_76 : decode cX7_isBalanced 76 = .ok (.iadd, 1) := by decide +kernel
theorem dX7_isBalanced_77 : decode cX7_isBalanced 77 = .ok (.istore_n 2, 1) := by decide +kernel
theorem dX7_isBalanced_78 : decode cX7_isBalanced 78 = .ok (.iinc 3 1, 3) := by decide +kernel
theorem dX7_isBalanced_81 : decode cX7_isBalanced 81 = .ok (.goto (-25), 3) := by decide +kernel
theorem dX7_isBalanced_84 : decode cX7_isBalanced 84 = .ok (.iload_n 1, 1) := by decide +kernel
theorem dX7_isBalanced_85 : decode cX7_isBalanced 85 = .ok (.ifCond .eq 16, 3) := by decide +kernel
theorem dX7_isBalanced_88 : decode cX7_isBalanced 88 = .ok (.iload_n 2, 1) := by decide +kernel
theorem dX7_isBalanced_89 : decode cX7_isBalanced 89 = .ok (.aload_n 0, 1) := by decide +kernel
theorem dX7_isBalanced_90 : decode cX7_isBalanced 90 = .ok (.iconst 1, 1) := by decide +kernel
theorem dX7_isBalanced_91 : decode cX7_isBalanced 91 = .ok (.invokevirtual 104, 3) := by decide +kernel
theorem dX7_isBalanced_94 : decode cX7_isBalanced 94 = .ok (.if_icmp .ne 7, 3) := by decide +kernel
theorem dX7_isBalanced_97 : decode cX7_isBalanced 97 = .ok (.iconst 1, 1) := by decide +kernel
theorem dX7_isBalanced_98 : decode cX7_isBalanced 98 = .ok (.goto 4, 3) := by decide +kernel
theorem dX7_isBalanced_101 : decode cX7_isBalanced 101 = .ok (.iconst 0, 1) := by decide +kernel
theorem dX7_isBalanced_102 : decode cX7_isBalanced 102 = .ok (.ireturn, 1) := by decide +kernel
theorem dX7_meanAge_0 : decode cX7_meanAge 0 = .ok (.aload_n 0, 1) := by decide +kernel
theorem dX7_meanAge_1 : decode cX7_meanAge 1 = .ok (.iconst 1, 1) := by decide +kernel
theorem dX7_meanAge_2 : decode cX7_meanAge 2 = .ok (.invokevirtual 104, 3) := by decide +kernel
theorem dX7_meanAge_5 : decode cX7_meanAge 5 = .ok (.istore_n 1, 1) := by decide +kernel
theorem dX7_meanAge_6 : decode cX7_meanAge 6 = .ok (.iconst 0, 1) := by decide +kernel
theorem dX7_meanAge_7 : decode cX7_meanAge 7 = .ok (.istore_n 2, 1) := by decide +kernel
theorem dX7_meanAge_8 : decode cX7_meanAge 8 = .ok (.iconst 0, 1) := by decide +kernel
theorem dX7_meanAge_9 : decode cX7_meanAge 9 = .ok (.istore_n 3, 1) := by decide +kernel
theorem dX7_meanAge_10 : decode cX7_meanAge 10 = .ok (.iload_n 3, 1) := by decide +kernel
theorem dX7_meanAge_11 : decode cX7_meanAge 11 = .ok (.aload_n 0, 1) := by decide +kernel
theorem dX7_meanAge_12 : decode cX7_meanAge 12 = .ok (.getfield 7, 3) := by decide +kernel
theorem dX7_meanAge_15 : decode cX7_meanAge 15 = .ok (.iconst 2, 1) := by decide +kernel
theorem dX7_meanAge_16 : decode cX7_meanAge 16 = .ok (.iaload, 1) := by decide +kernel
theorem dX7_meanAge_17 : decode cX7_meanAge 17 = .ok (.if_icmp .ge 31, 3) := by decide +kernel
theorem dX7_meanAge_20 : decode cX7_meanAge 20 = .ok (.iload_n 2, 1) := by decide +kernel
theorem dX7_meanAge_21 : decode cX7_meanAge 21 = .ok (.aload_n 0, 1) := by decide +kernel
theorem dX7_meanAge_22 : decode cX7_meanAge 22 = .ok (.iload_n 3, 1) := by decide +kernel
theorem dX7_meanAge_23 : decode cX7_meanAge 23 = .ok (.iconst 1, 1) := by decide +kernel
theorem dX7_meanAge_24 : decode cX7_meanAge 24 = .ok (.invokevirtual 68, 3) := by decide +kernel
theorem dX7_meanAge_27 : decode cX7_meanAge 27 = .ok (.ifCond .eq 12, 3) := by decide +kernel
theorem dX7_meanAge_30 : decode cX7_meanAge 30 = .ok (.aload_n 0, 1) := by decide +kernel
theorem dX7_meanAge_31 : decode cX7_meanAge 31 = .ok (.iload_n 3, 1) := by decide +kernel
theorem dX7_meanAge_32 : decode cX7_meanAge 32 = .ok (.iconst 0, 1) := by decide +kernel
theorem dX7_meanAge_33 : decode cX7_meanAge 33 = .ok (.invokevirtual 64, 3) := by decide +kernel
theorem dX7_meanAge_36 : decode cX7_meanAge 36 = .ok (.goto 4, 3) := by decide +kernel
theorem dX7_meanAge_39 : decode cX7_meanAge 39 = .ok (.iconst 0, 1) := by decide +kernel
theorem dX7_meanAge_40 : decode cX7_meanAge 40 = .ok (.iadd, 1) := by decide +kernel
theorem dX7_meanAge_41 : decode cX7_meanAge 41 = .ok (.istore_n 2, 1) := by decide +kernel
theorem dX7_meanAge_42 : decode cX7_meanAge 42 = .ok (.iinc 3 1, 3) := by decide +kernel
theorem dX7_meanAge_45 : decode cX7_meanAge 45 = .ok (.goto (-35), 3) := by decide +kernel
theorem dX7_meanAge_48 : decode cX7_meanAge 48 = .ok (.iload_n 1, 1) := by decide +kernel
theorem dX7_meanAge_49 : decode cX7_meanAge 49 = .ok (.ifCond .ne 7, 3) := by decide +kernel
theorem dX7_meanAge_52 : decode cX7_meanAge 52 = .ok (.dconst 0, 1) := by decide +kernel
theorem dX7_meanAge_53 : decode cX7_meanAge 53 = .ok (.goto 8, 3) := by decide +kernel
theorem dX7_meanAge_56 : decode cX7_meanAge 56 = .ok (.iload_n 2, 1) := by decide +kernel
theorem dX7_meanAge_57 : decode cX7_meanAge 57 = .ok (.i2d, 1) := by decide +kernel
theorem dX7_meanAge_58 : decode cX7_meanAge 58 = .ok (.iload_n 1, 1) := by decide +kernel
theorem dX7_meanAge_59 : decode cX7_meanAge 59 = .ok (.i2d, 1) := by decide +kernel
theorem dX7_meanAge_60 : decode cX7_meanAge 60 = .ok (.ddiv, 1) := by decide +kernel
theorem dX7_meanAge_61 : decode cX7_meanAge 61 = .ok (.dreturn, 1) := by decide +kernel
theorem dX7_entitledShare_0 : decode cX7_entitledShare 0 = .ok (.aload_n 0, 1) := by decide +kernel
theorem dX7_entitledShare_1 : decode cX7_entitledShare 1 = .ok (.iconst 1, 1) := by decide +kernel
theorem dX7_entitledShare_2 : decode cX7_entitledShare 2 = .ok (.invokevirtual 104, 3) := by decide +kernel
theorem dX7_entitledShare_5 : decode cX7_entitledShare 5 = .ok (.istore_n 1, 1) := by decide +kernel
theorem dX7_entitledShare_6 : decode cX7_entitledShare 6 = .ok (.iload_n 1, 1) := by decide +kernel
theorem dX7_entitledShare_7 : decode cX7_entitledShare 7 = .ok (.ifCond .ne 7, 3) := by decide +kernel
theorem dX7_entitledShare_10 : decode cX7_entitledShare 10 = .ok (.fconst 0, 1) := by decide +kernel
theorem dX7_entitledShare_11 : decode cX7_entitledShare 11 = .ok (.goto 11, 3) := by decide +kernel
theorem dX7_entitledShare_14 : decode cX7_entitledShare 14 = .ok (.aload_n 0, 1) := by decide +kernel
theorem dX7_entitledShare_15 : decode cX7_entitledShare 15 = .ok (.invokevirtual 170, 3) := by decide +kernel
theorem dX7_entitledShare_18 : decode cX7_entitledShare 18 = .ok (.i2f, 1) := by decide +kernel
theorem dX7_entitledShare_19 : decode cX7_entitledShare 19 = .ok (.iload_n 1, 1) := by decide +kernel
theorem dX7_entitledShare_20 : decode cX7_entitledShare 20 = .ok (.i2f, 1) := by decide +kernel
theorem dX7_entitledShare_21 : decode cX7_entitledShare 21 = .ok (.fdiv, 1) := by decide +kernel
theorem dX7_entitledShare_22 : decode cX7_entitledShare 22 = .ok (.freturn, 1) := by decide +kernel
theorem dX7_undo_0 : decode cX7_undo 0 = .ok (.aload_n 0, 1) := by decide +kernel
theorem dX7_undo_1 : decode cX7_undo 1 = .ok (.getfield 48, 3) := by decide +kernel
theorem dX7_undo_4 : decode cX7_undo 4 = .ok (.ifCond .ne 6, 3) := by decide +kernel
theorem dX7_undo_7 : decode cX7_undo 7 = .ok (.bipush (-15), 2) := by decide +kernel
theorem dX7_undo_9 : decode cX7_undo 9 = .ok (.ireturn, 1) := by decide +kernel
theorem dX7_undo_10 : decode cX7_undo 10 = .ok (.aload_n 0, 1) := by decide +kernel
theorem dX7_undo_11 : decode cX7_undo 11 = .ok (.dup, 1) := by decide +kernel
theorem dX7_undo_12 : decode cX7_undo 12 = .ok (.getfield 48, 3) := by decide +kernel
theorem dX7_undo_15 : decode cX7_undo 15 = .ok (.iconst 1, 1) := by decide +kernel
theorem dX7_undo_16 : decode cX7_undo 16 = .ok (.isub, 1) := by decide +kernel
theorem dX7_undo_17 : decode cX7_undo 17 = .ok (.putfield 48, 3) := by decide +kernel
theorem dX7_undo_20 : decode cX7_undo 20 = .ok (.aload_n 0, 1) := by decide +kernel
theorem dX7_undo_21 : decode cX7_undo 21 = .ok (.getfield 51, 3) := by decide +kernel
theorem dX7_undo_24 : decode cX7_undo 24 = .ok (.aload_n 0, 1) := by decide +kernel
theorem dX7_undo_25 : decode cX7_undo 25 = .ok (.getfield 48, 3) := by decide +kernel
theorem dX7_undo_28 : decode cX7_undo 28 = .ok (.iadd, 1) := by decide +kernel
theorem dX7_undo_29 : decode cX7_undo 29 = .ok (.bipush 8, 2) := by decide +kernel
theorem dX7_undo_31 : decode cX7_undo 31 = .ok (.irem, 1) := by decide +kernel
theorem dX7_undo_32 : decode cX7_undo 32 = .ok (.istore_n 1, 1) := by decide +kernel
theorem dX7_undo_33 : decode cX7_undo 33 = .ok (.iconst 0, 1) := by decide +kernel
theorem dX7_undo_34 : decode cX7_undo 34 = .ok (.istore_n 2, 1) := by decide +kernel
theorem dX7_undo_35 : decode cX7_undo 35 = .ok (.iload_n 2, 1) := by decide +kernel
theorem dX7_undo_36 : decode cX7_undo 36 = .ok (.sipush 320, 3) := by decide +kernel
theorem dX7_undo_39 : decode cX7_undo 39 = .ok (.if_icmp .ge 27, 3) := by decide +kernel
theorem dX7_undo_42 : decode cX7_undo 42 = .ok (.aload_n 0, 1) := by decide +kernel
theorem dX7_undo_43 : decode cX7_undo 43 = .ok (.getfield 7, 3) := by decide +kernel
theorem dX7_undo_46 : decode cX7_undo 46 = .ok (.iload_n 2, 1) := by decide +kernel
theorem dX7_undo_47 : decode cX7_undo 47 = .ok (.aload_n 0, 1) := by decide +kernel
theorem dX7_undo_48 : decode cX7_undo 48 = .ok (.getfield 13, 3) := by decide +kernel
theorem dX7_undo_51 : decode cX7_undo 51 = .ok (.sipush 320, 3) := by decide +kernel
theorem dX7_undo_54 : decode cX7_undo 54 = .ok (.iload_n 1, 1) := by decide +kernel
theorem dX7_undo_55 : decode cX7_undo 55 = .ok (.imul, 1) := by decide +kernel
theorem dX7_undo_56 : decode cX7_undo 56 = .ok (.iload_n 2, 1) := by decide +kernel
theorem dX7_undo_57 : decode cX7_undo 57 = .ok (.iadd, 1) := by decide +kernel
theorem dX7_undo_58 : decode cX7_undo 58 = .ok (.iaload, 1) := by decide +kernel
theorem dX7_undo_59 : decode cX7_undo 59 = .ok (.iastore, 1) := by decide +kernel
theorem dX7_undo_60 : decode cX7_undo 60 = .ok (.iinc 2 1, 3) := by decide +kernel
theorem dX7_undo_63 : decode cX7_undo 63 = .ok (.goto (-28), 3) := by decide +kernel
theorem dX7_undo_66 : decode cX7_undo 66 = .ok (.aload_n 0, 1) := by decide +kernel
theorem dX7_undo_67 : decode cX7_undo 67 = .ok (.getfield 48, 3) := by decide +kernel
theorem dX7_undo_70 : decode cX7_undo 70 = .ok (.ireturn, 1) := by decide +kernel
theorem dX7_save_0 : decode cX7_save 0 = .ok (.iconst 0, 1) := by decide +kernel
theorem dX7_save_1 : decode cX7_save 1 = .ok (.istore_n 1, 1) := by decide +kernel
theorem dX7_save_2 : decode cX7_save 2 = .ok (.iload_n 1, 1) := by decide +kernel
theorem dX7_save_3 : decode cX7_save 3 = .ok (.sipush 320, 3) := by decide +kernel
theorem dX7_save_6 : decode cX7_save 6 = .ok (.if_icmp .ge 21, 3) := by decide +kernel
theorem dX7_save_9 : decode cX7_save 9 = .ok (.aload_n 0, 1) := by decide +kernel
theorem dX7_save_10 : decode cX7_save 10 = .ok (.getfield 16, 3) := by decide +kernel
theorem dX7_save_13 : decode cX7_save 13 = .ok (.iload_n 1, 1) := by decide +kernel
theorem dX7_save_14 : decode cX7_save 14 = .ok (.aload_n 0, 1) := by decide +kernel
theorem dX7_save_15 : decode cX7_save 15 = .ok (.getfield 7, 3) := by decide +kernel
theorem dX7_save_18 : decode cX7_save 18 = .ok (.iload_n 1, 1) := by decide +kernel
theorem dX7_save_19 : decode cX7_save 19 = .ok (.iaload, 1) := by decide +kernel
theorem dX7_save_20 : decode cX7_save 20 = .ok (.iastore, 1) := by decide +kernel
theorem dX7_save_21 : decode cX7_save 21 = .ok (.iinc 1 1, 3) := by decide +kernel
theorem dX7_save_24 : decode cX7_save 24 = .ok (.goto (-22), 3) := by decide +kernel
theorem dX7_save_27 : decode cX7_save 27 = .ok (.aload_n 0, 1) := by decide +kernel
theorem dX7_save_28 : decode cX7_save 28 = .ok (.iconst 1, 1) := by decide +kernel
theorem dX7_save_29 : decode cX7_save 29 = .ok (.putfield 265, 3) := by decide +kernel
theorem dX7_save_32 : decode cX7_save 32 = .ok (.aload_n 0, 1) := by decide +kernel
theorem dX7_save_33 : decode cX7_save 33 = .ok (.getfield 7, 3) := by decide +kernel
theorem dX7_save_36 : decode cX7_save 36 = .ok (.iconst 2, 1) := by decide +kernel
theorem dX7_save_37 : decode cX7_save 37 = .ok (.iaload, 1) := by decide +kernel
theorem dX7_save_38 : decode cX7_save 38 = .ok (.ireturn, 1) := by decide +kernel
theorem dX7_restore_0 : decode cX7_restore 0 = .ok (.aload_n 0, 1) := by decide +kernel
theorem dX7_restore_1 : decode cX7_restore 1 = .ok (.getfield 265, 3) := by decide +kernel
theorem dX7_restore_4 : decode cX7_restore 4 = .ok (.ifCond .ne 6, 3) := by decide +kernel
theorem dX7_restore_7 : decode cX7_restore 7 = .ok (.bipush (-15), 2) := by decide +kernel
theorem dX7_restore_9 : decode cX7_restore 9 = .ok (.ireturn, 1) := by decide +kernel
theorem dX7_restore_10 : decode cX7_restore 10 = .ok (.iconst 0, 1) := by decide +kernel
theorem dX7_restore_11 : decode cX7_restore 11 = .ok (.istore_n 1, 1) := by decide +kernel
theorem dX7_restore_12 : decode cX7_restore 12 = .ok (.iload_n 1, 1) := by decide +kernel
theorem dX7_restore_13 : decode cX7_restore 13 = .ok (.sipush 320, 3) := by decide +kernel
theorem dX7_restore_16 : decode cX7_restore 16 = .ok (.if_icmp .ge 21, 3) := by decide +kernel
theorem dX7_restore_19 : decode cX7_restore 19 = .ok (.aload_n 0, 1) := by decide +kernel
theorem dX7_restore_20 : decode cX7_restore 20 = .ok (.getfield 7, 3) := by decide +kernel
theorem dX7_restore_23 : decode cX7_restore 23 = .ok (.iload_n 1, 1) := by decide +kernel
theorem dX7_restore_24 : decode cX7_restore 24 = .ok (.aload_n 0, 1) := by decide +kernel
theorem dX7_restore_25 : decode cX7_restore 25 = .ok (.getfield 16, 3) := by decide +kernel
theorem dX7_restore_28 : decode cX7_restore 28 = .ok (.iload_n 1, 1) := by decide +kernel
theorem dX7_restore_29 : decode cX7_restore 29 = .ok (.iaload, 1) := by decide +kernel
theorem dX7_restore_30 : decode cX7_restore 30 = .ok (.iastore, 1) := by decide +kernel
theorem dX7_restore_31 : decode cX7_restore 31 = .ok (.iinc 1 1, 3) := by decide +kernel
theorem dX7_restore_34 : decode cX7_restore 34 = .ok (.goto (-22), 3) := by decide +kernel
theorem dX7_restore_37 : decode cX7_restore 37 = .ok (.aload_n 0, 1) := by decide +kernel
theorem dX7_restore_38 : decode cX7_restore 38 = .ok (.iconst 0, 1) := by decide +kernel
theorem dX7_restore_39 : decode cX7_restore 39 = .ok (.putfield 48, 3) := by decide +kernel
theorem dX7_restore_42 : decode cX7_restore 42 = .ok (.aload_n 0, 1) := by decide +kernel
theorem dX7_restore_43 : decode cX7_restore 43 = .ok (.iconst 0, 1) := by decide +kernel
theorem dX7_restore_44 : decode cX7_restore 44 = .ok (.putfield 51, 3) := by decide +kernel
theorem dX7_restore_47 : decode cX7_restore 47 = .ok (.aload_n 0, 1) := by decide +kernel
theorem dX7_restore_48 : decode cX7_restore 48 = .ok (.getfield 7, 3) := by decide +kernel
theorem dX7_restore_51 : decode cX7_restore 51 = .ok (.iconst 2, 1) := by decide +kernel
theorem dX7_restore_52 : decode cX7_restore 52 = .ok (.iaload, 1) := by decide +kernel
theorem dX7_restore_53 : decode cX7_restore 53 = .ok (.ireturn, 1) := by decide +kernel
end
section
theorem dL_law_0 : decode cL_law 0 = .ok (.new 7, 3) := by decide +kernel
theorem dL_law_3 : decode cL_law 3 = .ok (.dup, 1) := by decide +kernel
theorem dL_law_4 : decode cL_law 4 = .ok (.invokespecial 9, 3) := by decide +kernel
theorem dL_law_7 : decode cL_law 7 = .ok (.astore_n 1, 1) := by decide +kernel
theorem dL_law_8 : decode cL_law 8 = .ok (.new 10, 3) := by decide +kernel
theorem dL_law_11 : decode cL_law 11 = .ok (.dup, 1) := by decide +kernel
theorem dL_law_12 : decode cL_law 12 = .ok (.invokespecial 12, 3) := by decide +kernel
theorem dL_law_15 : decode cL_law 15 = .ok (.astore_n 2, 1) := by decide +kernel
theorem dL_law_16 : decode cL_law 16 = .ok (.iconst 0, 1) := by decide +kernel
theorem dL_law_17 : decode cL_law 17 = .ok (.istore_n 3, 1) := by decide +kernel
theorem dL_law_18 : decode cL_law 18 = .ok (.iload_n 3, 1) := by decide +kernel
theorem dL_law_19 : decode cL_law 19 = .ok (.aload_n 0, 1) := by decide +kernel
theorem dL_law_20 : decode cL_law 20 = .ok (.arraylength, 1) := by decide +kernel
theorem dL_law_21 : decode cL_law 21 = .ok (.iconst 3, 1) := by decide +kernel
theorem dL_law_22 : decode cL_law 22 = .ok (.isub, 1) := by decide +kernel
theorem dL_law_23 : decode cL_law 23 = .ok (.if_icmp .gt 1043, 3) := by decide +kernel
theorem dL_law_26 : decode cL_law 26 = .ok (.aload_n 0, 1) := by decide +kernel
theorem dL_law_27 : decode cL_law 27 = .ok (.iload_n 3, 1) := by decide +kernel
theorem dL_law_28 : decode cL_law 28 = .ok (.iaload, 1) := by decide +kernel
theorem dL_law_29 : decode cL_law 29 = .ok (.bipush 63, 2) := by decide +kernel
theorem dL_law_31 : decode cL_law 31 = .ok (.iand, 1) := by decide +kernel
theorem dL_law_32 : decode cL_law 32 = .ok (.tableswitch 1028 0 35 #[160, 209, 232, 265, 288, 311, 344, 377, 400, 423, 446, 479, 512, 535, 548, 561, 584, 607, 630, 653, 676, 689, 722, 745, 768, 781, 794, 807, 830, 869, 892, 905, 946, 989, 1002, 1015], 160) := by decide +kernel
theorem dL_law_192 : decode cL_law 192 = .ok (.aload_n 1, 1) := by decide +kernel
theorem dL_law_193 : decode cL_law 193 = .ok (.aload_n 0, 1) := by decide +kernel
theorem dL_law_194 : decode cL_law 194 = .ok (.iload_n 3, 1) := by decide +kernel
theorem dL_law_195 : decode cL_law 195 = .ok (.iconst 1, 1) := by decide +kernel
theorem dL_law_196 : decode cL_law 196 = .ok (.iadd, 1) := by decide +kernel
theorem dL_law_197 : decode cL_law 197 = .ok (.iaload, 1) := by decide +kernel
theorem dL_law_198 : decode cL_law 198 = .ok (.aload_n 0, 1) := by decide +kernel
theorem dL_law_199 : decode cL_law 199 = .ok (.iload_n 3, 1) := by decide +kernel
theorem dL_law_200 : decode cL_law 200 = .ok (.iconst 2, 1) := by decide +kernel
theorem dL_law_201 : decode cL_law 201 = .ok (.iadd, 1) := by decide +kernel
theorem dL_law_202 : decode cL_law 202 = .ok (.iaload, 1) := by decide +kernel
theorem dL_law_203 : decode cL_law 203 = .ok (.ifCond .eq 7, 3) := by decide +kernel
theorem dL_law_206 : decode cL_law 206 = .ok (.iconst 1, 1) := by decide +kernel
theorem dL_law_207 : decode cL_law 207 = .ok (.goto 4, 3) := by decide +kernel
theorem dL_law_210 : decode cL_law 210 = .ok (.iconst 0, 1) := by decide +kernel
theorem dL_law_211 : decode cL_law 211 = .ok (.invokevirtual 13, 3) := by decide +kernel
theorem dL_law_214 : decode cL_law 214 = .ok (.aload_n 2, 1) := by decide +kernel
theorem dL_law_215 : decode cL_law 215 = .ok (.aload_n 0, 1) := by decide +kernel
theorem dL_law_216 : decode cL_law 216 = .ok (.iload_n 3, 1) := by decide +kernel
theorem dL_law_217 : decode cL_law 217 = .ok (.iconst 1, 1) := by decide +kernel
theorem dL_law_218 : decode cL_law 218 = .ok (.iadd, 1) := by decide +kernel
theorem dL_law_219 : decode cL_law 219 = .ok (.iaload, 1) := by decide +kernel
theorem dL_law_220 : decode cL_law 220 = .ok (.aload_n 0, 1) := by decide +kernel
theorem dL_law_221 : decode cL_law 221 = .ok (.iload_n 3, 1) := by decide +kernel
theorem dL_law_222 : decode cL_law 222 = .ok (.iconst 2, 1) := by decide +kernel
theorem dL_law_223 : decode cL_law 223 = .ok (.iadd, 1) := by decide +kernel
theorem dL_law_224 : decode cL_law 224 = .ok (.iaload, 1) := by decide +kernel
theorem dL_law_225 : decode cL_law 225 = .ok (.ifCond .eq 7, 3) := by decide +kernel
theorem dL_law_228 : decode cL_law 228 = .ok (.iconst 1, 1) := by decide +kernel
theorem dL_law_229 : decode cL_law 229 = .ok (.goto 4, 3) := by decide +kernel
theorem dL_law_232 : decode cL_law 232 = .ok (.iconst 0, 1) := by decide +kernel
theorem dL_law_233 : decode cL_law 233 = .ok (.invokevirtual 17, 3) := by decide +kernel
theorem dL_law_236 : decode cL_law 236 = .ok (.if_icmp .eq 824, 3) := by decide +kernel
theorem dL_law_239 : decode cL_law 239 = .ok (.iconst 0, 1) := by decide +kernel
theorem dL_law_240 : decode cL_law 240 = .ok (.ireturn, 1) := by decide +kernel
theorem dL_law_241 : decode cL_law 241 = .ok (.aload_n 1, 1) := by decide +kernel
theorem dL_law_242 : decode cL_law 242 = .ok (.aload_n 0, 1) := by decide +kernel
theorem dL_law_243 : decode cL_law 243 = .ok (.iload_n 3, 1) := by decide +kernel
theorem dL_law_244 : decode cL_law 244 = .ok (.iconst 1, 1) := by decide +kernel
theorem dL_law_245 : decode cL_law 245 = .ok (.iadd, 1) := by decide +kernel
theorem dL_law_246 : decode cL_law 246 = .ok (.iaload, 1) := by decide +kernel
theorem dL_law_247 : decode cL_law 247 = .ok (.invokevirtual 18, 3) := by decide +kernel
theorem dL_law_250 : decode cL_law 250 = .ok (.aload_n 2, 1) := by decide +kernel
theorem dL_law_251 : decode cL_law 251 = .ok (.aload_n 0, 1) := by decide +kernel
theorem dL_law_252 : decode cL_law 252 = .ok (.iload_n 3, 1) := by decide +kernel
theorem dL_law_253 : decode cL_law 253 = .ok (.iconst 1, 1) := by decide +kernel
theorem dL_law_254 : decode cL_law 254 = .ok (.iadd, 1) := by decide +kernel
theorem dL_law_255 : decode cL_law 255 = .ok (.iaload, 1) := by decide +kernel
theorem dL_law_256 : decode cL_law 256 = .ok (.invokevirtual 22, 3) := by decide +kernel
theorem dL_law_259 : decode cL_law 259 = .ok (.if_icmp .eq 801, 3) := by decide +kernel
theorem dL_law_262 : decode cL_law 262 = .ok (.iconst 0, 1) := by decide +kernel
theorem dL_law_263 : decode cL_law 263 = .ok (.ireturn, 1) := by decide +kernel
theorem dL_law_264 : decode cL_law 264 = .ok (.aload_n 1, 1) := by decide +kernel
theorem dL_law_265 : decode cL_law 265 = .ok (.aload_n 0, 1) := by decide +kernel
theorem dL_law_266 : decode cL_law 266 = .ok (.iload_n 3, 1) := by decide +kernel
theorem dL_law_267 : decode cL_law 267 = .ok (.iconst 1, 1) := by decide +kernel
theorem dL_law_268 : decode cL_law 268 = .ok (.iadd, 1) := by decide +kernel
theorem dL_law_269 : decode cL_law 269 = .ok (.iaload, 1) := by decide +kernel
theorem dL_law_270 : decode cL_law 270 = .ok (.aload_n 0, 1) := by decide +kernel
theorem dL_law_271 : decode cL_law 271 = .ok (.iload_n 3, 1) := by decide +kernel
theorem dL_law_272 : decode cL_law 272 = .ok (.iconst 2, 1) := by decide +kernel
theorem dL_law_273 : decode cL_law 273 = .ok (.iadd, 1) := by decide +kernel
theorem dL_law_274 : decode cL_law 274 = .ok (.iaload, 1) := by decide +kernel
theorem dL_law_275 : decode cL_law 275 = .ok (.invokevirtual 23, 3) := by decide +kernel
theorem dL_law_278 : decode cL_law 278 = .ok (.aload_n 2, 1) := by decide +kernel
theorem dL_law_279 : decode cL_law 279 = .ok (.aload_n 0, 1) := by decide +kernel
theorem dL_law_280 : decode cL_law 280 = .ok (.iload_n 3, 1) := by decide +kernel
theorem dL_law_281 : decode cL_law 281 = .ok (.iconst 1, 1) := by decide +kernel
theorem dL_law_282 : decode cL_law 282 = .ok (.iadd, 1) := by decide +kernel
theorem dL_law_283 : decode cL_law 283 = .ok (.iaload, 1) := by decide +kernel
theorem dL_law_284 : decode cL_law 284 = .ok (.aload_n 0, 1) := by decide +kernel
theorem dL_law_285 : decode cL_law 285 = .ok (.iload_n 3, 1) := by decide +kernel
theorem dL_law_286 : decode cL_law 286 = .ok (.iconst 2, 1) := by decide +kernel
theorem dL_law_287 : decode cL_law 287 = .ok (.iadd, 1) := by decide +kernel
theorem dL_law_288 : decode cL_law 288 = .ok (.iaload, 1) := by decide +kernel
theorem dL_law_289 : decode cL_law 289 = .ok (.invokevirtual 27, 3) := by decide +kernel
theorem dL_law_292 : decode cL_law 292 = .ok (.if_icmp .eq 768, 3) := by decide +kernel
theorem dL_law_295 : decode cL_law 295 = .ok (.iconst 0, 1) := by decide +kernel
theorem dL_law_296 : decode cL_law 296 = .ok (.ireturn, 1) := by decide +kernel
theorem dL_law_297 : decode cL_law 297 = .ok (.aload_n 1, 1) := by decide +kernel
theorem dL_law_298 : decode cL_law 298 = .ok (.aload_n 0, 1) := by decide +kernel
theorem dL_law_299 : decode cL_law 299 = .ok (.iload_n 3, 1) := by decide +kernel
theorem dL_law_300 : decode cL_law 300 = .ok (.iconst 1, 1) := by decide +kernel
theorem dL_law_301 : decode cL_law 301 = .ok (.iadd, 1) := by decide +kernel
theorem dL_law_302 : decode cL_law 302 = .ok (.iaload, 1) := by decide +kernel
theorem dL_law_303 : decode cL_law 303 = .ok (.invokevirtual 28, 3) := by decide +kernel
theorem dL_law_306 : decode cL_law 306 = .ok (.aload_n 2, 1) := by decide +kernel
theorem dL_law_307 : decode cL_law 307 = .ok (.aload_n 0, 1) := by decide +kernel
theorem dL_law_308 : decode cL_law 308 = .ok (.iload_n 3, 1) := by decide +kernel
theorem dL_law_309 : decode cL_law 309 = .ok (.iconst 1, 1) := by decide +kernel
theorem dL_law_310 : decode cL_law 310 = .ok (.iadd, 1) := by decide +kernel
theorem dL_law_311 : decode cL_law 311 = .ok (.iaload, 1) := by decide +kernel
theorem dL_law_312 : decode cL_law 312 = .ok (.invokevirtual 31, 3) := by decide +kernel
theorem dL_law_315 : decode cL_law 315 = .ok (.if_icmp .eq 745, 3) := by decide +kernel
theorem dL_law_318 : decode cL_law 318 = .ok (.iconst 0, 1) := by decide +kernel
theorem dL_law_319 : decode cL_law 319 = .ok (.ireturn, 1) := by decide +kernel
theorem dL_law_320 : decode cL_law 320 = .ok (.aload_n 1, 1) := by decide +kernel
theorem dL_law_321 : decode cL_law 321 = .ok (.aload_n 0, 1) := by decide +kernel
theorem dL_law_322 : decode cL_law 322 = .ok (.iload_n 3, 1) := by decide +kernel
theorem dL_law_323 : decode cL_law 323 = .ok (.iconst 1, 1) := by decide +kernel
theorem dL_law_324 : decode cL_law 324 = .ok (.iadd, 1) := by decide +kernel
theorem dL_law_325 : decode cL_law 325 = .ok (.iaload, 1) := by decide +kernel
theorem dL_law_326 : decode cL_law 326 = .ok (.invokevirtual 32, 3) := by decide +kernel
theorem dL_law_329 : decode cL_law 329 = .ok (.aload_n 2, 1) := by decide +kernel
theorem dL_law_330 : decode cL_law 330 = .ok (.aload_n 0, 1) := by decide +kernel
theorem dL_law_331 : decode cL_law 331 = .ok (.iload_n 3, 1) := by decide +kernel
theorem dL_law_332 : decode cL_law 332 = .ok (.iconst 1, 1) := by decide +kernel
theorem dL_law_333 : decode cL_law 333 = .ok (.iadd, 1) := by decide +kernel
theorem dL_law_334 : decode cL_law 334 = .ok (.iaload, 1) := by decide +kernel
theorem dL_law_335 : decode cL_law 335 = .ok (.invokevirtual 35, 3) := by decide +kernel
theorem dL_law_338 : decode cL_law 338 = .ok (.if_icmp .eq 722, 3) := by decide +kernel
theorem dL_law_341 : decode cL_law 341 = .ok (.iconst 0, 1) := by decide +kernel
theorem dL_law_342 : decode cL_law 342 = .ok (.ireturn, 1) := by decide +kernel
theorem dL_law_343 : decode cL_law 343 = .ok (.aload_n 1, 1) := by decide +kernel
theorem dL_law_344 : decode cL_law 344 = .ok (.aload_n 0, 1) := by decide +kernel
theorem dL_law_345 : decode cL_law 345 = .ok (.iload_n 3, 1) := by decide +kernel
theorem dL_law_346 : decode cL_law 346 = .ok (.iconst 1, 1) := by decide +kernel
theorem dL_law_347 : decode cL_law 347 = .ok (.iadd, 1) := by decide +kernel
theorem dL_law_348 : decode cL_law 348 = .ok (.iaload, 1) := by decide +kernel
theorem dL_law_349 : decode cL_law 349 = .ok (.aload_n 0, 1) := by decide +kernel
theorem dL_law_350 : decode cL_law 350 = .ok (.iload_n 3, 1) := by decide +kernel
theorem dL_law_351 : decode cL_law 351 = .ok (.iconst 2, 1) := by decide +kernel
theorem dL_law_352 : decode cL_law 352 = .ok (.iadd, 1) := by decide +kernel
theorem dL_law_353 : decode cL_law 353 = .ok (.iaload, 1) := by decide +kernel
theorem dL_law_354 : decode cL_law 354 = .ok (.invokevirtual 36, 3) := by decide +kernel
theorem dL_law_357 : decode cL_law 357 = .ok (.aload_n 2, 1) := by decide +kernel
theorem dL_law_358 : decode cL_law 358 = .ok (.aload_n 0, 1) := by decide +kernel
theorem dL_law_359 : decode cL_law 359 = .ok (.iload_n 3, 1) := by decide +kernel
theorem dL_law_360 : decode cL_law 360 = .ok (.iconst 1, 1) := by decide +kernel
theorem dL_law_361 : decode cL_law 361 = .ok (.iadd, 1) := by decide +kernel
theorem dL_law_362 : decode cL_law 362 = .ok (.iaload, 1) := by decide +kernel
theorem dL_law_363 : decode cL_law 363 = .ok (.aload_n 0, 1) := by decide +kernel
theorem dL_law_364 : decode cL_law 364 = .ok (.iload_n 3, 1) := by decide +kernel
theorem dL_law_365 : decode cL_law 365 = .ok (.iconst 2, 1) := by decide +kernel
theorem dL_law_366 : decode cL_law 366 = .ok (.iadd, 1) := by decide +kernel
theorem dL_law_367 : decode cL_law 367 = .ok (.iaload, 1) := by decide +kernel
theorem dL_law_368 : decode cL_law 368 = .ok (.invokevirtual 39, 3) := by decide +kernel
theorem dL_law_371 : decode cL_law 371 = .ok (.if_icmp .eq 689, 3) := by decide +kernel
theorem dL_law_374 : decode cL_law 374 = .ok (.iconst 0, 1) := by decide +kernel
theorem dL_law_375 : decode cL_law 375 = .ok (.ireturn, 1) := by decide +kernel
theorem dL_law_376 : decode cL_law 376 = .ok (.aload_n 1, 1) := by decide +kernel
theorem dL_law_377 : decode cL_law 377 = .ok (.aload_n 0, 1) := by decide +kernel
theorem dL_law_378 : decode cL_law 378 = .ok (.iload_n 3, 1) := by decide +kernel
theorem dL_law_379 : decode cL_law 379 = .ok (.iconst 1, 1) := by decide +kernel
theorem dL_law_380 : decode cL_law 380 = .ok (.iadd, 1) := by decide +kernel
theorem dL_law_381 : decode cL_law 381 = .ok (.iaload, 1) := by decide +kernel
theorem dL_law_382 : decode cL_law 382 = .ok (.aload_n 0, 1) := by decide +kernel
theorem dL_law_383 : decode cL_law 383 = .ok (.iload_n 3, 1) := by decide +kernel
theorem dL_law_384 : decode cL_law 384 = .ok (.iconst 2, 1) := by decide +kernel
theorem dL_law_385 : decode cL_law 385 = .ok (.iadd, 1) := by decide +kernel
theorem dL_law_386 : decode cL_law 386 = .ok (.iaload, 1) := by decide +kernel
theorem dL_law_387 : decode cL_law 387 = .ok (.invokevirtual 40, 3) := by decide +kernel
theorem dL_law_390 : decode cL_law 390 = .ok (.aload_n 2, 1) := by decide +kernel
theorem dL_law_391 : decode cL_law 391 = .ok (.aload_n 0, 1) := by decide +kernel
theorem dL_law_392 : decode cL_law 392 = .ok (.iload_n 3, 1) := by decide +kernel
theorem dL_law_393 : decode cL_law 393 = .ok (.iconst 1, 1) := by decide +kernel
theorem dL_law_394 : decode cL_law 394 = .ok (.iadd, 1) := by decide +kernel
theorem dL_law_395 : decode cL_law 395 = .ok (.iaload, 1) := by decide +kernel
theorem dL_law_396 : decode cL_law 396 = .ok (.aload_n 0, 1) := by decide +kernel
theorem dL_law_397 : decode cL_law 397 = .ok (.iload_n 3, 1) := by decide +kernel
theorem dL_law_398 : decode cL_law 398 = .ok (.iconst 2, 1) := by decide +kernel
theorem dL_law_399 : decode cL_law 399 = .ok (.iadd, 1) := by decide +kernel
theorem dL_law_400 : decode cL_law 400 = .ok (.iaload, 1) := by decide +kernel
theorem dL_law_401 : decode cL_law 401 = .ok (.invokevirtual 43, 3) := by decide +kernel
theorem dL_law_404 : decode cL_law 404 = .ok (.if_icmp .eq 656, 3) := by decide +kernel
theorem dL_law_407 : decode cL_law 407 = .ok (.iconst 0, 1) := by decide +kernel
theorem dL_law_408 : decode cL_law 408 = .ok (.ireturn, 1) := by decide +kernel
theorem dL_law_409 : decode cL_law 409 = .ok (.aload_n 1, 1) := by decide +kernel
theorem dL_law_410 : decode cL_law 410 = .ok (.aload_n 0, 1) := by decide +kernel
theorem dL_law_411 : decode cL_law 411 = .ok (.iload_n 3, 1) := by decide +kernel
theorem dL_law_412 : decode cL_law 412 = .ok (.iconst 1, 1) := by decide +kernel
theorem dL_law_413 : decode cL_law 413 = .ok (.iadd, 1) := by decide +kernel
theorem dL_law_414 : decode cL_law 414 = .ok (.iaload, 1) := by decide +kernel
theorem dL_law_415 : decode cL_law 415 = .ok (.invokevirtual 44, 3) := by decide +kernel
theorem dL_law_418 : decode cL_law 418 = .ok (.aload_n 2, 1) := by decide +kernel
theorem dL_law_419 : decode cL_law 419 = .ok (.aload_n 0, 1) := by decide +kernel
theorem dL_law_420 : decode cL_law 420 = .ok (.iload_n 3, 1) := by decide +kernel
theorem dL_law_421 : decode cL_law 421 = .ok (.iconst 1, 1) := by decide +kernel
theorem dL_law_422 : decode cL_law 422 = .ok (.iadd, 1) := by decide +kernel
theorem dL_law_423 : decode cL_law 423 = .ok (.iaload, 1) := by decide +kernel
theorem dL_law_424 : decode cL_law 424 = .ok (.invokevirtual 47, 3) := by decide +kernel
theorem dL_law_427 : decode cL_law 427 = .ok (.if_icmp .eq 633, 3) := by decide +kernel
theorem dL_law_430 : decode cL_law 430 = .ok (.iconst 0, 1) := by decide +kernel
theorem dL_law_431 : decode cL_law 431 = .ok (.ireturn, 1) := by decide +kernel
theorem dL_law_432 : decode cL_law 432 = .ok (.aload_n 1, 1) := by decide +kernel
theorem dL_law_433 : decode cL_law 433 = .ok (.aload_n 0, 1) := by decide +kernel
theorem dL_law_434 : decode cL_law 434 = .ok (.iload_n 3, 1) := by decide +kernel
theorem dL_law_435 : decode cL_law 435 = .ok (.iconst 1, 1) := by decide +kernel
theorem dL_law_436 : decode cL_law 436 = .ok (.iadd, 1) := by decide +kernel
theorem dL_law_437 : decode cL_law 437 = .ok (.iaload, 1) := by decide +kernel
theorem dL_law_438 : decode cL_law 438 = .ok (.invokevirtual 48, 3) := by decide +kernel
theorem dL_law_441 : decode cL_law 441 = .ok (.aload_n 2, 1) := by decide +kernel
theorem dL_law_442 : decode cL_law 442 = .ok (.aload_n 0, 1) := by decide +kernel
theorem dL_law_443 : decode cL_law 443 = .ok (.iload_n 3, 1) := by decide +kernel
theorem dL_law_444 : decode cL_law 444 = .ok (.iconst 1, 1) := by decide +kernel
theorem dL_law_445 : decode cL_law 445 = .ok (.iadd, 1) := by decide +kernel
theorem dL_law_446 : decode cL_law 446 = .ok (.iaload, 1) := by decide +kernel
theorem dL_law_447 : decode cL_law 447 = .ok (.invokevirtual 51, 3) := by decide +kernel
theorem dL_law_450 : decode cL_law 450 = .ok (.if_icmp .eq 610, 3) := by decide +kernel
theorem dL_law_453 : decode cL_law 453 = .ok (.iconst 0, 1) := by decide +kernel
theorem dL_law_454 : decode cL_law 454 = .ok (.ireturn, 1) := by decide +kernel
theorem dL_law_455 : decode cL_law 455 = .ok (.aload_n 1, 1) := by decide +kernel
theorem dL_law_456 : decode cL_law 456 = .ok (.aload_n 0, 1) := by decide +kernel
theorem dL_law_457 : decode cL_law 457 = .ok (.iload_n 3, 1) := by decide +kernel
theorem dL_law_458 : decode cL_law 458 = .ok (.iconst 1, 1) := by decide +kernel
theorem dL_law_459 : decode cL_law 459 = .ok (.iadd, 1) := by decide +kernel
theorem dL_law_460 : decode cL_law 460 = .ok (.iaload, 1) := by decide +kernel
theorem dL_law_461 : decode cL_law 461 = .ok (.invokevirtual 52, 3) := by decide +kernel
theorem dL_law_464 : decode cL_law 464 = .ok (.aload_n 2, 1) := by decide +kernel
theorem dL_law_465 : decode cL_law 465 = .ok (.aload_n 0, 1) := by decide +kernel
theorem dL_law_466 : decode cL_law 466 = .ok (.iload_n 3, 1) := by decide +kernel
theorem dL_law_467 : decode cL_law 467 = .ok (.iconst 1, 1) := by decide +kernel
theorem dL_law_468 : decode cL_law 468 = .ok (.iadd, 1) := by decide +kernel
theorem dL_law_469 : decode cL_law 469 = .ok (.iaload, 1) := by decide +kernel
theorem dL_law_470 : decode cL_law 470 = .ok (.invokevirtual 55, 3) := by decide +kernel
theorem dL_law_473 : decode cL_law 473 = .ok (.if_icmp .eq 587, 3) := by decide +kernel
theorem dL_law_476 : decode cL_law 476 = .ok (.iconst 0, 1) := by decide +kernel
theorem dL_law_477 : decode cL_law 477 = .ok (.ireturn, 1) := by decide +kernel
theorem dL_law_478 : decode cL_law 478 = .ok (.aload_n 1, 1) := by decide +kernel
theorem dL_law_479 : decode cL_law 479 = .ok (.aload_n 0, 1) := by decide +kernel
theorem dL_law_480 : decode cL_law 480 = .ok (.iload_n 3, 1) := by decide +kernel
theorem dL_law_481 : decode cL_law 481 = .ok (.iconst 1, 1) := by decide +kernel
theorem dL_law_482 : decode cL_law 482 = .ok (.iadd, 1) := by decide +kernel
theorem dL_law_483 : decode cL_law 483 = .ok (.iaload, 1) := by decide +kernel
theorem dL_law_484 : decode cL_law 484 = .ok (.aload_n 0, 1) := by decide +kernel
theorem dL_law_485 : decode cL_law 485 = .ok (.iload_n 3, 1) := by decide +kernel
theorem dL_law_486 : decode cL_law 486 = .ok (.iconst 2, 1) := by decide +kernel
theorem dL_law_487 : decode cL_law 487 = .ok (.iadd, 1) := by decide +kernel
theorem dL_law_488 : decode cL_law 488 = .ok (.iaload, 1) := by decide +kernel
theorem dL_law_489 : decode cL_law 489 = .ok (.invokevirtual 56, 3) := by decide +kernel
theorem dL_law_492 : decode cL_law 492 = .ok (.aload_n 2, 1) := by decide +kernel
theorem dL_law_493 : decode cL_law 493 = .ok (.aload_n 0, 1) := by decide +kernel
theorem dL_law_494 : decode cL_law 494 = .ok (.iload_n 3, 1) := by decide +kernel
theorem dL_law_495 : decode cL_law 495 = .ok (.iconst 1, 1) := by decide +kernel
theorem dL_law_496 : decode cL_law 496 = .ok (.iadd, 1) := by decide +kernel
theorem dL_law_497 : decode cL_law 497 = .ok (.iaload, 1) := by decide +kernel
theorem dL_law_498 : decode cL_law 498 = .ok (.aload_n 0, 1) := by decide +kernel
theorem dL_law_499 : decode cL_law 499 = .ok (.iload_n 3, 1) := by decide +kernel
theorem dL_law_500 : decode cL_law 500 = .ok (.iconst 2, 1) := by decide +kernel
theorem dL_law_501 : decode cL_law 501 = .ok (.iadd, 1) := by decide +kernel
theorem dL_law_502 : decode cL_law 502 = .ok (.iaload, 1) := by decide +kernel
theorem dL_law_503 : decode cL_law 503 = .ok (.invokevirtual 59, 3) := by decide +kernel
theorem dL_law_506 : decode cL_law 506 = .ok (.if_icmp .eq 554, 3) := by decide +kernel
theorem dL_law_509 : decode cL_law 509 = .ok (.iconst 0, 1) := by decide +kernel
theorem dL_law_510 : decode cL_law 510 = .ok (.ireturn, 1) := by decide +kernel
theorem dL_law_511 : decode cL_law 511 = .ok (.aload_n 1, 1) := by decide +kernel
theorem dL_law_512 : decode cL_law 512 = .ok (.aload_n 0, 1) := by decide +kernel
theorem dL_law_513 : decode cL_law 513 = .ok (.iload_n 3, 1) := by decide +kernel
theorem dL_law_514 : decode cL_law 514 = .ok (.iconst 1, 1) := by decide +kernel
theorem dL_law_515 : decode cL_law 515 = .ok (.iadd, 1) := by decide +kernel
theorem dL_law_516 : decode cL_law 516 = .ok (.iaload, 1) := by decide +kernel
theorem dL_law_517 : decode cL_law 517 = .ok (.aload_n 0, 1) := by decide +kernel
theorem dL_law_518 : decode cL_law 518 = .ok (.iload_n 3, 1) := by decide +kernel
theorem dL_law_519 : decode cL_law 519 = .ok (.iconst 2, 1) := by decide +kernel
theorem dL_law_520 : decode cL_law 520 = .ok (.iadd, 1) := by decide +kernel
theorem dL_law_521 : decode cL_law 521 = .ok (.iaload, 1) := by decide +kernel
theorem dL_law_522 : decode cL_law 522 = .ok (.invokevirtual 60, 3) := by decide +kernel
theorem dL_law_525 : decode cL_law 525 = .ok (.aload_n 2, 1) := by decide +kernel
theorem dL_law_526 : decode cL_law 526 = .ok (.aload_n 0, 1) := by decide +kernel
theorem dL_law_527 : decode cL_law 527 = .ok (.iload_n 3, 1) := by decide +kernel
theorem dL_law_528 : decode cL_law 528 = .ok (.iconst 1, 1) := by decide +kernel
theorem dL_law_529 : decode cL_law 529 = .ok (.iadd, 1) := by decide +kernel
theorem dL_law_530 : decode cL_law 530 = .ok (.iaload, 1) := by decide +kernel
theorem dL_law_531 : decode cL_law 531 = .ok (.aload_n 0, 1) := by decide +kernel
theorem dL_law_532 : decode cL_law 532 = .ok (.iload_n 3, 1) := by decide +kernel
theorem dL_law_533 : decode cL_law 533 = .ok (.iconst 2, 1) := by decide +kernel
theorem dL_law_534 : decode cL_law 534 = .ok (.iadd, 1) := by decide +kernel
theorem dL_law_535 : decode cL_law 535 = .ok (.iaload, 1) := by decide +kernel
theorem dL_law_536 : decode cL_law 536 = .ok (.invokevirtual 63, 3) := by decide +kernel
theorem dL_law_539 : decode cL_law 539 = .ok (.if_icmp .eq 521, 3) := by decide +kernel
theorem dL_law_542 : decode cL_law 542 = .ok (.iconst 0, 1) := by decide +kernel
theorem dL_law_543 : decode cL_law 543 = .ok (.ireturn, 1) := by decide +kernel
theorem dL_law_544 : decode cL_law 544 = .ok (.aload_n 1, 1) := by decide +kernel
theorem dL_law_545 : decode cL_law 545 = .ok (.aload_n 0, 1) := by decide +kernel
theorem dL_law_546 : decode cL_law 546 = .ok (.iload_n 3, 1) := by decide +kernel
theorem dL_law_547 : decode cL_law 547 = .ok (.iconst 1, 1) := by decide +kernel
theorem dL_law_548 : decode cL_law 548 = .ok (.iadd, 1) := by decide +kernel
theorem dL_law_549 : decode cL_law 549 = .ok (.iaload, 1) := by decide +kernel
theorem dL_law_550 : decode cL_law 550 = .ok (.invokevirtual 64, 3) := by decide +kernel
theorem dL_law_553 : decode cL_law 553 = .ok (.aload_n 2, 1) := by decide +kernel
theorem dL_law_554 : decode cL_law 554 = .ok (.aload_n 0, 1) := by decide +kernel
theorem dL_law_555 : decode cL_law 555 = .ok (.iload_n 3, 1) := by decide +kernel
theorem dL_law_556 : decode cL_law 556 = .ok (.iconst 1, 1) := by decide +kernel
theorem dL_law_557 : decode cL_law 557 = .ok (.iadd, 1) := by decide +kernel
theorem dL_law_558 : decode cL_law 558 = .ok (.iaload, 1) := by decide +kernel
theorem dL_law_559 : decode cL_law 559 = .ok (.invokevirtual 67, 3) := by decide +kernel
theorem dL_law_562 : decode cL_law 562 = .ok (.if_icmp .eq 498, 3) := by decide +kernel
theorem dL_law_565 : decode cL_law 565 = .ok (.iconst 0, 1) := by decide +kernel
theorem dL_law_566 : decode cL_law 566 = .ok (.ireturn, 1) := by decide +kernel
theorem dL_law_567 : decode cL_law 567 = .ok (.aload_n 1, 1) := by decide +kernel
theorem dL_law_568 : decode cL_law 568 = .ok (.invokevirtual 68, 3) := by decide +kernel
theorem dL_law_571 : decode cL_law 571 = .ok (.aload_n 2, 1) := by decide +kernel
theorem dL_law_572 : decode cL_law 572 = .ok (.invokevirtual 72, 3) := by decide +kernel
theorem dL_law_575 : decode cL_law 575 = .ok (.if_icmp .eq 485, 3) := by decide +kernel
theorem dL_law_578 : decode cL_law 578 = .ok (.iconst 0, 1) := by decide +kernel
theorem dL_law_579 : decode cL_law 579 = .ok (.ireturn, 1) := by decide +kernel
theorem dL_law_580 : decode cL_law 580 = .ok (.aload_n 1, 1) := by decide +kernel
theorem dL_law_581 : decode cL_law 581 = .ok (.invokevirtual 73, 3) := by decide +kernel
theorem dL_law_584 : decode cL_law 584 = .ok (.aload_n 2, 1) := by decide +kernel
theorem dL_law_585 : decode cL_law 585 = .ok (.invokevirtual 76, 3) := by decide +kernel
theorem dL_law_588 : decode cL_law 588 = .ok (.if_icmp .eq 472, 3) := by decide +kernel
theorem dL_law_591 : decode cL_law 591 = .ok (.iconst 0, 1) := by decide +kernel
theorem dL_law_592 : decode cL_law 592 = .ok (.ireturn, 1) := by decide +kernel
theorem dL_law_593 : decode cL_law 593 = .ok (.aload_n 1, 1) := by decide +kernel
theorem dL_law_594 : decode cL_law 594 = .ok (.aload_n 0, 1) := by decide +kernel
theorem dL_law_595 : decode cL_law 595 = .ok (.iload_n 3, 1) := by decide +kernel
theorem dL_law_596 : decode cL_law 596 = .ok (.iconst 1, 1) := by decide +kernel
theorem dL_law_597 : decode cL_law 597 = .ok (.iadd, 1) := by decide +kernel
theorem dL_law_598 : decode cL_law 598 = .ok (.iaload, 1) := by decide +kernel
theorem dL_law_599 : decode cL_law 599 = .ok (.invokevirtual 77, 3) := by decide +kernel
theorem dL_law_602 : decode cL_law 602 = .ok (.aload_n 2, 1) := by decide +kernel
theorem dL_law_603 : decode cL_law 603 = .ok (.aload_n 0, 1) := by decide +kernel
theorem dL_law_604 : decode cL_law 604 = .ok (.iload_n 3, 1) := by decide +kernel
theorem dL_law_605 : decode cL_law 605 = .ok (.iconst 1, 1) := by decide +kernel
theorem dL_law_606 : decode cL_law 606 = .ok (.iadd, 1) := by decide +kernel
theorem dL_law_607 : decode cL_law 607 = .ok (.iaload, 1) := by decide +kernel
theorem dL_law_608 : decode cL_law 608 = .ok (.invokevirtual 80, 3) := by decide +kernel
theorem dL_law_611 : decode cL_law 611 = .ok (.if_icmp .eq 449, 3) := by decide +kernel
theorem dL_law_614 : decode cL_law 614 = .ok (.iconst 0, 1) := by decide +kernel
theorem dL_law_615 : decode cL_law 615 = .ok (.ireturn, 1) := by decide +kernel
theorem dL_law_616 : decode cL_law 616 = .ok (.aload_n 1, 1) := by decide +kernel
theorem dL_law_617 : decode cL_law 617 = .ok (.aload_n 0, 1) := by decide +kernel
theorem dL_law_618 : decode cL_law 618 = .ok (.iload_n 3, 1) := by decide +kernel
theorem dL_law_619 : decode cL_law 619 = .ok (.iconst 1, 1) := by decide +kernel
theorem dL_law_620 : decode cL_law 620 = .ok (.iadd, 1) := by decide +kernel
theorem dL_law_621 : decode cL_law 621 = .ok (.iaload, 1) := by decide +kernel
theorem dL_law_622 : decode cL_law 622 = .ok (.invokevirtual 81, 3) := by decide +kernel
theorem dL_law_625 : decode cL_law 625 = .ok (.aload_n 2, 1) := by decide +kernel
theorem dL_law_626 : decode cL_law 626 = .ok (.aload_n 0, 1) := by decide +kernel
theorem dL_law_627 : decode cL_law 627 = .ok (.iload_n 3, 1) := by decide +kernel
theorem dL_law_628 : decode cL_law 628 = .ok (.iconst 1, 1) := by decide +kernel
theorem dL_law_629 : decode cL_law 629 = .ok (.iadd, 1) := by decide +kernel
theorem dL_law_630 : decode cL_law 630 = .ok (.iaload, 1) := by decide +kernel
theorem dL_law_631 : decode cL_law 631 = .ok (.invokevirtual 84, 3) := by decide +kernel
theorem dL_law_634 : decode cL_law 634 = .ok (.if_icmp .eq 426, 3) := by decide +kernel
theorem dL_law_637 : decode cL_law 637 = .ok (.iconst 0, 1) := by decide +kernel
theorem dL_law_638 : decode cL_law 638 = .ok (.ireturn, 1) := by decide +kernel
theorem dL_law_639 : decode cL_law 639 = .ok (.aload_n 1, 1) := by decide +kernel
theorem dL_law_640 : decode cL_law 640 = .ok (.aload_n 0, 1) := by decide +kernel
theorem dL_law_641 : decode cL_law 641 = .ok (.iload_n 3, 1) := by decide +kernel
theorem dL_law_642 : decode cL_law 642 = .ok (.iconst 1, 1) := by decide +kernel
theorem dL_law_643 : decode cL_law 643 = .ok (.iadd, 1) := by decide +kernel
theorem dL_law_644 : decode cL_law 644 = .ok (.iaload, 1) := by decide +kernel
theorem dL_law_645 : decode cL_law 645 = .ok (.invokevirtual 85, 3) := by decide +kernel
theorem dL_law_648 : decode cL_law 648 = .ok (.aload_n 2, 1) := by decide +kernel
theorem dL_law_649 : decode cL_law 649 = .ok (.aload_n 0, 1) := by decide +kernel
theorem dL_law_650 : decode cL_law 650 = .ok (.iload_n 3, 1) := by decide +kernel
theorem dL_law_651 : decode cL_law 651 = .ok (.iconst 1, 1) := by decide +kernel
theorem dL_law_652 : decode cL_law 652 = .ok (.iadd, 1) := by decide +kernel
theorem dL_law_653 : decode cL_law 653 = .ok (.iaload, 1) := by decide +kernel
theorem dL_law_654 : decode cL_law 654 = .ok (.invokevirtual 88, 3) := by decide +kernel
theorem dL_law_657 : decode cL_law 657 = .ok (.if_icmp .eq 403, 3) := by decide +kernel
theorem dL_law_660 : decode cL_law 660 = .ok (.iconst 0, 1) := by decide +kernel
theorem dL_law_661 : decode cL_law 661 = .ok (.ireturn, 1) := by decide +kernel
theorem dL_law_662 : decode cL_law 662 = .ok (.aload_n 1, 1) := by decide +kernel
theorem dL_law_663 : decode cL_law 663 = .ok (.aload_n 0, 1) := by decide +kernel
theorem dL_law_664 : decode cL_law 664 = .ok (.iload_n 3, 1) := by decide +kernel
theorem dL_law_665 : decode cL_law 665 = .ok (.iconst 1, 1) := by decide +kernel
theorem dL_law_666 : decode cL_law 666 = .ok (.iadd, 1) := by decide +kernel
theorem dL_law_667 : decode cL_law 667 = .ok (.iaload, 1) := by decide +kernel
theorem dL_law_668 : decode cL_law 668 = .ok (.invokevirtual 89, 3) := by decide +kernel
theorem dL_law_671 : decode cL_law 671 = .ok (.aload_n 2, 1) := by decide +kernel
theorem dL_law_672 : decode cL_law 672 = .ok (.aload_n 0, 1) := by decide +kernel
theorem dL_law_673 : decode cL_law 673 = .ok (.iload_n 3, 1) := by decide +kernel
theorem dL_law_674 : decode cL_law 674 = .ok (.iconst 1, 1) := by decide +kernel
theorem dL_law_675 : decode cL_law 675 = .ok (.iadd, 1) := by decide +kernel
theorem dL_law_676 : decode cL_law 676 = .ok (.iaload, 1) := by decide +kernel
theorem dL_law_677 : decode cL_law 677 = .ok (.invokevirtual 92, 3) := by decide +kernel
theorem dL_law_680 : decode cL_law 680 = .ok (.if_icmp .eq 380, 3) := by decide +kernel
theorem dL_law_683 : decode cL_law 683 = .ok (.iconst 0, 1) := by decide +kernel
theorem dL_law_684 : decode cL_law 684 = .ok (.ireturn, 1) := by decide +kernel
theorem dL_law_685 : decode cL_law 685 = .ok (.aload_n 1, 1) := by decide +kernel
theorem dL_law_686 : decode cL_law 686 = .ok (.aload_n 0, 1) := by decide +kernel
theorem dL_law_687 : decode cL_law 687 = .ok (.iload_n 3, 1) := by decide +kernel
theorem dL_law_688 : decode cL_law 688 = .ok (.iconst 1, 1) := by decide +kernel
theorem dL_law_689 : decode cL_law 689 = .ok (.iadd, 1) := by decide +kernel
theorem dL_law_690 : decode cL_law 690 = .ok (.iaload, 1) := by decide +kernel
theorem dL_law_691 : decode cL_law 691 = .ok (.invokevirtual 93, 3) := by decide +kernel
theorem dL_law_694 : decode cL_law 694 = .ok (.aload_n 2, 1) := by decide +kernel
theorem dL_law_695 : decode cL_law 695 = .ok (.aload_n 0, 1) := by decide +kernel
theorem dL_law_696 : decode cL_law 696 = .ok (.iload_n 3, 1) := by decide +kernel
theorem dL_law_697 : decode cL_law 697 = .ok (.iconst 1, 1) := by decide +kernel
theorem dL_law_698 : decode cL_law 698 = .ok (.iadd, 1) := by decide +kernel
theorem dL_law_699 : decode cL_law 699 = .ok (.iaload, 1) := by decide +kernel
theorem dL_law_700 : decode cL_law 700 = .ok (.invokevirtual 96, 3) := by decide +kernel
theorem dL_law_703 : decode cL_law 703 = .ok (.if_icmp .eq 357, 3) := by decide +kernel
theorem dL_law_706 : decode cL_law 706 = .ok (.iconst 0, 1) := by decide +kernel
theorem dL_law_707 : decode cL_law 707 = .ok (.ireturn, 1) := by decide +kernel
theorem dL_law_708 : decode cL_law 708 = .ok (.aload_n 1, 1) := by decide +kernel
theorem dL_law_709 : decode cL_law 709 = .ok (.invokevirtual 97, 3) := by decide +kernel
theorem dL_law_712 : decode cL_law 712 = .ok (.aload_n 2, 1) := by decide +kernel
theorem dL_law_713 : decode cL_law 713 = .ok (.invokevirtual 100, 3) := by decide +kernel
theorem dL_law_716 : decode cL_law 716 = .ok (.if_icmp .eq 344, 3) := by decide +kernel
theorem dL_law_719 : decode cL_law 719 = .ok (.iconst 0, 1) := by decide +kernel
theorem dL_law_720 : decode cL_law 720 = .ok (.ireturn, 1) := by decide +kernel
theorem dL_law_721 : decode cL_law 721 = .ok (.aload_n 1, 1) := by decide +kernel
theorem dL_law_722 : decode cL_law 722 = .ok (.aload_n 0, 1) := by decide +kernel
theorem dL_law_723 : decode cL_law 723 = .ok (.iload_n 3, 1) := by decide +kernel
theorem dL_law_724 : decode cL_law 724 = .ok (.iconst 1, 1) := by decide +kernel
theorem dL_law_725 : decode cL_law 725 = .ok (.iadd, 1) := by decide +kernel
theorem dL_law_726 : decode cL_law 726 = .ok (.iaload, 1) := by decide +kernel
theorem dL_law_727 : decode cL_law 727 = .ok (.aload_n 0, 1) := by decide +kernel
theorem dL_law_728 : decode cL_law 728 = .ok (.iload_n 3, 1) := by decide +kernel
theorem dL_law_729 : decode cL_law 729 = .ok (.iconst 2, 1) := by decide +kernel
theorem dL_law_730 : decode cL_law 730 = .ok (.iadd, 1) := by decide +kernel
theorem dL_law_731 : decode cL_law 731 = .ok (.iaload, 1) := by decide +kernel
theorem dL_law_732 : decode cL_law 732 = .ok (.invokevirtual 101, 3) := by decide +kernel
theorem dL_law_735 : decode cL_law 735 = .ok (.aload_n 2, 1) := by decide +kernel
theorem dL_law_736 : decode cL_law 736 = .ok (.aload_n 0, 1) := by decide +kernel
theorem dL_law_737 : decode cL_law 737 = .ok (.iload_n 3, 1) := by decide +kernel
theorem dL_law_738 : decode cL_law 738 = .ok (.iconst 1, 1) := by decide +kernel
theorem dL_law_739 : decode cL_law 739 = .ok (.iadd, 1) := by decide +kernel
theorem dL_law_740 : decode cL_law 740 = .ok (.iaload, 1) := by decide +kernel
theorem dL_law_741 : decode cL_law 741 = .ok (.aload_n 0, 1) := by decide +kernel
theorem dL_law_742 : decode cL_law 742 = .ok (.iload_n 3, 1) := by decide +kernel
theorem dL_law_743 : decode cL_law 743 = .ok (.iconst 2, 1) := by decide +kernel
theorem dL_law_744 : decode cL_law 744 = .ok (.iadd, 1) := by decide +kernel
theorem dL_law_745 : decode cL_law 745 = .ok (.iaload, 1) := by decide +kernel
theorem dL_law_746 : decode cL_law 746 = .ok (.invokevirtual 104, 3) := by decide +kernel
theorem dL_law_749 : decode cL_law 749 = .ok (.if_icmp .eq 311, 3) := by decide +kernel
theorem dL_law_752 : decode cL_law 752 = .ok (.iconst 0, 1) := by decide +kernel
theorem dL_law_753 : decode cL_law 753 = .ok (.ireturn, 1) := by decide +kernel
theorem dL_law_754 : decode cL_law 754 = .ok (.aload_n 1, 1) := by decide +kernel
theorem dL_law_755 : decode cL_law 755 = .ok (.aload_n 0, 1) := by decide +kernel
theorem dL_law_756 : decode cL_law 756 = .ok (.iload_n 3, 1) := by decide +kernel
theorem dL_law_757 : decode cL_law 757 = .ok (.iconst 1, 1) := by decide +kernel
theorem dL_law_758 : decode cL_law 758 = .ok (.iadd, 1) := by decide +kernel
theorem dL_law_759 : decode cL_law 759 = .ok (.iaload, 1) := by decide +kernel
theorem dL_law_760 : decode cL_law 760 = .ok (.invokevirtual 105, 3) := by decide +kernel
theorem dL_law_763 : decode cL_law 763 = .ok (.aload_n 2, 1) := by decide +kernel
theorem dL_law_764 : decode cL_law 764 = .ok (.aload_n 0, 1) := by decide +kernel
theorem dL_law_765 : decode cL_law 765 = .ok (.iload_n 3, 1) := by decide +kernel
theorem dL_law_766 : decode cL_law 766 = .ok (.iconst 1, 1) := by decide +kernel
theorem dL_law_767 : decode cL_law 767 = .ok (.iadd, 1) := by decide +kernel
theorem dL_law_768 : decode cL_law 768 = .ok (.iaload, 1) := by decide +kernel
theorem dL_law_769 : decode cL_law 769 = .ok (.invokevirtual 108, 3) := by decide +kernel
theorem dL_law_772 : decode cL_law 772 = .ok (.if_icmp .eq 288, 3) := by decide +kernel
theorem dL_law_775 : decode cL_law 775 = .ok (.iconst 0, 1) := by decide +kernel
theorem dL_law_776 : decode cL_law 776 = .ok (.ireturn, 1) := by decide +kernel
theorem dL_law_777 : decode cL_law 777 = .ok (.aload_n 1, 1) := by decide +kernel
theorem dL_law_778 : decode cL_law 778 = .ok (.aload_n 0, 1) := by decide +kernel
theorem dL_law_779 : decode cL_law 779 = .ok (.iload_n 3, 1) := by decide +kernel
theorem dL_law_780 : decode cL_law 780 = .ok (.iconst 1, 1) := by decide +kernel
theorem dL_law_781 : decode cL_law 781 = .ok (.iadd, 1) := by decide +kernel
theorem dL_law_782 : decode cL_law 782 = .ok (.iaload, 1) := by decide +kernel
theorem dL_law_783 : decode cL_law 783 = .ok (.invokevirtual 109, 3) := by decide +kernel
theorem dL_law_786 : decode cL_law 786 = .ok (.aload_n 2, 1) := by decide +kernel
theorem dL_law_787 : decode cL_law 787 = .ok (.aload_n 0, 1) := by decide +kernel
theorem dL_law_788 : decode cL_law 788 = .ok (.iload_n 3, 1) := by decide +kernel
theorem dL_law_789 : decode cL_law 789 = .ok (.iconst 1, 1) := by decide +kernel
theorem dL_law_790 : decode cL_law 790 = .ok (.iadd, 1) := by decide +kernel
theorem dL_law_791 : decode cL_law 791 = .ok (.iaload, 1) := by decide +kernel
theorem dL_law_792 : decode cL_law 792 = .ok (.invokevirtual 112, 3) := by decide +kernel
theorem dL_law_795 : decode cL_law 795 = .ok (.if_icmp .eq 265, 3) := by decide +kernel
theorem dL_law_798 : decode cL_law 798 = .ok (.iconst 0, 1) := by decide +kernel
theorem dL_law_799 : decode cL_law 799 = .ok (.ireturn, 1) := by decide +kernel
theorem dL_law_800 : decode cL_law 800 = .ok (.aload_n 1, 1) := by decide +kernel
theorem dL_law_801 : decode cL_law 801 = .ok (.invokevirtual 113, 3) := by decide +kernel
theorem dL_law_804 : decode cL_law 804 = .ok (.aload_n 2, 1) := by decide +kernel
theorem dL_law_805 : decode cL_law 805 = .ok (.invokevirtual 116, 3) := by decide +kernel
theorem dL_law_808 : decode cL_law 808 = .ok (.if_icmp .eq 252, 3) := by decide +kernel
theorem dL_law_811 : decode cL_law 811 = .ok (.iconst 0, 1) := by decide +kernel
theorem dL_law_812 : decode cL_law 812 = .ok (.ireturn, 1) := by decide +kernel
theorem dL_law_813 : decode cL_law 813 = .ok (.aload_n 1, 1) := by decide +kernel
theorem dL_law_814 : decode cL_law 814 = .ok (.invokevirtual 117, 3) := by decide +kernel
theorem dL_law_817 : decode cL_law 817 = .ok (.aload_n 2, 1) := by decide +kernel
theorem dL_law_818 : decode cL_law 818 = .ok (.invokevirtual 120, 3) := by decide +kernel
theorem dL_law_821 : decode cL_law 821 = .ok (.if_icmp .eq 239, 3) := by decide +kernel
theorem dL_law_824 : decode cL_law 824 = .ok (.iconst 0, 1) := by decide +kernel
theorem dL_law_825 : decode cL_law 825 = .ok (.ireturn, 1) := by decide +kernel
theorem dL_law_826 : decode cL_law 826 = .ok (.aload_n 1, 1) := by decide +kernel
theorem dL_law_827 : decode cL_law 827 = .ok (.invokevirtual 121, 3) := by decide +kernel
theorem dL_law_830 : decode cL_law 830 = .ok (.aload_n 2, 1) := by decide +kernel
theorem dL_law_831 : decode cL_law 831 = .ok (.invokevirtual 124, 3) := by decide +kernel
theorem dL_law_834 : decode cL_law 834 = .ok (.if_icmp .eq 226, 3) := by decide +kernel
theorem dL_law_837 : decode cL_law 837 = .ok (.iconst 0, 1) := by decide +kernel
theorem dL_law_838 : decode cL_law 838 = .ok (.ireturn, 1) := by decide +kernel
theorem dL_law_839 : decode cL_law 839 = .ok (.aload_n 1, 1) := by decide +kernel
theorem dL_law_840 : decode cL_law 840 = .ok (.aload_n 0, 1) := by decide +kernel
theorem dL_law_841 : decode cL_law 841 = .ok (.iload_n 3, 1) := by decide +kernel
theorem dL_law_842 : decode cL_law 842 = .ok (.iconst 1, 1) := by decide +kernel
theorem dL_law_843 : decode cL_law 843 = .ok (.iadd, 1) := by decide +kernel
theorem dL_law_844 : decode cL_law 844 = .ok (.iaload, 1) := by decide +kernel
theorem dL_law_845 : decode cL_law 845 = .ok (.invokevirtual 125, 3) := by decide +kernel
theorem dL_law_848 : decode cL_law 848 = .ok (.aload_n 2, 1) := by decide +kernel
theorem dL_law_849 : decode cL_law 849 = .ok (.aload_n 0, 1) := by decide +kernel
theorem dL_law_850 : decode cL_law 850 = .ok (.iload_n 3, 1) := by decide +kernel
theorem dL_law_851 : decode cL_law 851 = .ok (.iconst 1, 1) := by decide +kernel
theorem dL_law_852 : decode cL_law 852 = .ok (.iadd, 1) := by decide +kernel
theorem dL_law_853 : decode cL_law 853 = .ok (.iaload, 1) := by decide +kernel
theorem dL_law_854 : decode cL_law 854 = .ok (.invokevirtual 128, 3) := by decide +kernel
theorem dL_law_857 : decode cL_law 857 = .ok (.if_icmp .eq 203, 3) := by decide +kernel
theorem dL_law_860 : decode cL_law 860 = .ok (.iconst 0, 1) := by decide +kernel
theorem dL_law_861 : decode cL_law 861 = .ok (.ireturn, 1) := by decide +kernel
theorem dL_law_862 : decode cL_law 862 = .ok (.aload_n 1, 1) := by decide +kernel
theorem dL_law_863 : decode cL_law 863 = .ok (.aload_n 0, 1) := by decide +kernel
theorem dL_law_864 : decode cL_law 864 = .ok (.iload_n 3, 1) := by decide +kernel
theorem dL_law_865 : decode cL_law 865 = .ok (.iconst 1, 1) := by decide +kernel
theorem dL_law_866 : decode cL_law 866 = .ok (.iadd, 1) := by decide +kernel
theorem dL_law_867 : decode cL_law 867 = .ok (.iaload, 1) := by decide +kernel
theorem dL_law_868 : decode cL_law 868 = .ok (.ifCond .eq 7, 3) := by decide +kernel
theorem dL_law_871 : decode cL_law 871 = .ok (.iconst 1, 1) := by decide +kernel
theorem dL_law_872 : decode cL_law 872 = .ok (.goto 4, 3) := by decide +kernel
theorem dL_law_875 : decode cL_law 875 = .ok (.iconst 0, 1) := by decide +kernel
theorem dL_law_876 : decode cL_law 876 = .ok (.invokevirtual 129, 3) := by decide +kernel
theorem dL_law_879 : decode cL_law 879 = .ok (.aload_n 2, 1) := by decide +kernel
theorem dL_law_880 : decode cL_law 880 = .ok (.aload_n 0, 1) := by decide +kernel
theorem dL_law_881 : decode cL_law 881 = .ok (.iload_n 3, 1) := by decide +kernel
theorem dL_law_882 : decode cL_law 882 = .ok (.iconst 1, 1) := by decide +kernel
theorem dL_law_883 : decode cL_law 883 = .ok (.iadd, 1) := by decide +kernel
theorem dL_law_884 : decode cL_law 884 = .ok (.iaload, 1) := by decide +kernel
theorem dL_law_885 : decode cL_law 885 = .ok (.ifCond .eq 7, 3) := by decide +kernel
theorem dL_law_888 : decode cL_law 888 = .ok (.iconst 1, 1) := by decide +kernel
theorem dL_law_889 : decode cL_law 889 = .ok (.goto 4, 3) := by decide +kernel
theorem dL_law_892 : decode cL_law 892 = .ok (.iconst 0, 1) := by decide +kernel
theorem dL_law_893 : decode cL_law 893 = .ok (.invokevirtual 133, 3) := by decide +kernel
theorem dL_law_896 : decode cL_law 896 = .ok (.if_icmp .eq 164, 3) := by decide +kernel
theorem dL_law_899 : decode cL_law 899 = .ok (.iconst 0, 1) := by decide +kernel
theorem dL_law_900 : decode cL_law 900 = .ok (.ireturn, 1) := by decide +kernel
theorem dL_law_901 : decode cL_law 901 = .ok (.aload_n 1, 1) := by decide +kernel
theorem dL_law_902 : decode cL_law 902 = .ok (.aload_n 0, 1) := by decide +kernel
theorem dL_law_903 : decode cL_law 903 = .ok (.iload_n 3, 1) := by decide +kernel
theorem dL_law_904 : decode cL_law 904 = .ok (.iconst 1, 1) := by decide +kernel
theorem dL_law_905 : decode cL_law 905 = .ok (.iadd, 1) := by decide +kernel
theorem dL_law_906 : decode cL_law 906 = .ok (.iaload, 1) := by decide +kernel
theorem dL_law_907 : decode cL_law 907 = .ok (.invokevirtual 134, 3) := by decide +kernel
theorem dL_law_910 : decode cL_law 910 = .ok (.aload_n 2, 1) := by decide +kernel
theorem dL_law_911 : decode cL_law 911 = .ok (.aload_n 0, 1) := by decide +kernel
theorem dL_law_912 : decode cL_law 912 = .ok (.iload_n 3, 1) := by decide +kernel
theorem dL_law_913 : decode cL_law 913 = .ok (.iconst 1, 1) := by decide +kernel
theorem dL_law_914 : decode cL_law 914 = .ok (.iadd, 1) := by decide +kernel
theorem dL_law_915 : decode cL_law 915 = .ok (.iaload, 1) := by decide +kernel
theorem dL_law_916 : decode cL_law 916 = .ok (.invokevirtual 137, 3) := by decide +kernel
theorem dL_law_919 : decode cL_law 919 = .ok (.if_icmp .eq 141, 3) := by decide +kernel
theorem dL_law_922 : decode cL_law 922 = .ok (.iconst 0, 1) := by decide +kernel
theorem dL_law_923 : decode cL_law 923 = .ok (.ireturn, 1) := by decide +kernel
theorem dL_law_924 : decode cL_law 924 = .ok (.aload_n 1, 1) := by decide +kernel
theorem dL_law_925 : decode cL_law 925 = .ok (.invokevirtual 138, 3) := by decide +kernel
theorem dL_law_928 : decode cL_law 928 = .ok (.aload_n 2, 1) := by decide +kernel
theorem dL_law_929 : decode cL_law 929 = .ok (.invokevirtual 141, 3) := by decide +kernel
theorem dL_law_932 : decode cL_law 932 = .ok (.if_icmp .eq 128, 3) := by decide +kernel
theorem dL_law_935 : decode cL_law 935 = .ok (.iconst 0, 1) := by decide +kernel
theorem dL_law_936 : decode cL_law 936 = .ok (.ireturn, 1) := by decide +kernel
theorem dL_law_937 : decode cL_law 937 = .ok (.aload_n 1, 1) := by decide +kernel
theorem dL_law_938 : decode cL_law 938 = .ok (.invokevirtual 142, 3) := by decide +kernel
theorem dL_law_941 : decode cL_law 941 = .ok (.dstore 4, 2) := by decide +kernel
theorem dL_law_943 : decode cL_law 943 = .ok (.aload_n 2, 1) := by decide +kernel
theorem dL_law_944 : decode cL_law 944 = .ok (.invokevirtual 146, 3) := by decide +kernel
theorem dL_law_947 : decode cL_law 947 = .ok (.dstore 6, 2) := by decide +kernel
theorem dL_law_949 : decode cL_law 949 = .ok (.dload 4, 2) := by decide +kernel
theorem dL_law_951 : decode cL_law 951 = .ok (.dload 6, 2) := by decide +kernel
theorem dL_law_953 : decode cL_law 953 = .ok (.dcmp .l, 1) := by decide +kernel
theorem dL_law_954 : decode cL_law 954 = .ok (.ifCond .eq 21, 3) := by decide +kernel
theorem dL_law_957 : decode cL_law 957 = .ok (.dload 4, 2) := by decide +kernel
theorem dL_law_959 : decode cL_law 959 = .ok (.dload 4, 2) := by decide +kernel
theorem dL_law_961 : decode cL_law 961 = .ok (.dcmp .l, 1) := by decide +kernel
theorem dL_law_962 : decode cL_law 962 = .ok (.ifCond .eq 11, 3) := by decide +kernel
theorem dL_law_965 : decode cL_law 965 = .ok (.dload 6, 2) := by decide +kernel
theorem dL_law_967 : decode cL_law 967 = .ok (.dload 6, 2) := by decide +kernel
theorem dL_law_969 : decode cL_law 969 = .ok (.dcmp .l, 1) := by decide +kernel
theorem dL_law_970 : decode cL_law 970 = .ok (.ifCond .ne 5, 3) := by decide +kernel
theorem dL_law_973 : decode cL_law 973 = .ok (.iconst 0, 1) := by decide +kernel
theorem dL_law_974 : decode cL_law 974 = .ok (.ireturn, 1) := by decide +kernel
theorem dL_law_975 : decode cL_law 975 = .ok (.goto 85, 3) := by decide +kernel
theorem dL_law_978 : decode cL_law 978 = .ok (.aload_n 1, 1) := by decide +kernel
theorem dL_law_979 : decode cL_law 979 = .ok (.invokevirtual 147, 3) := by decide +kernel
theorem dL_law_982 : decode cL_law 982 = .ok (.f2d, 1) := by decide +kernel
theorem dL_law_983 : decode cL_law 983 = .ok (.dstore 4, 2) := by decide +kernel
theorem dL_law_985 : decode cL_law 985 = .ok (.aload_n 2, 1) := by decide +kernel
theorem dL_law_986 : decode cL_law 986 = .ok (.invokevirtual 151, 3) := by decide +kernel
theorem dL_law_989 : decode cL_law 989 = .ok (.f2d, 1) := by decide +kernel
theorem dL_law_990 : decode cL_law 990 = .ok (.dstore 6, 2) := by decide +kernel
theorem dL_law_992 : decode cL_law 992 = .ok (.dload 4, 2) := by decide +kernel
theorem dL_law_994 : decode cL_law 994 = .ok (.dload 6, 2) := by decide +kernel
theorem dL_law_996 : decode cL_law 996 = .ok (.dcmp .l, 1) := by decide +kernel
theorem dL_law_997 : decode cL_law 997 = .ok (.ifCond .eq 21, 3) := by decide +kernel
theorem dL_law_1000 : decode cL_law 1000 = .ok (.dload 4, 2) := by decide +kernel
theorem dL_law_1002 : decode cL_law 1002 = .ok (.dload 4, 2) := by decide +kernel
theorem dL_law_1004 : decode cL_law 1004 = .ok (.dcmp .l, 1) := by decide +kernel
theorem dL_law_1005 : decode cL_law 1005 = .ok (.ifCond .eq 11, 3) := by decide +kernel
theorem dL_law_1008 : decode cL_law 1008 = .ok (.dload 6, 2) := by decide +kernel
theorem dL_law_1010 : decode cL_law 1010 = .ok (.dload 6, 2) := by decide +kernel
theorem dL_law_1012 : decode cL_law 1012 = .ok (.dcmp .l, 1) := by decide +kernel
theorem dL_law_1013 : decode cL_law 1013 = .ok (.ifCond .ne 5, 3) := by decide +kernel
theorem dL_law_1016 : decode cL_law 1016 = .ok (.iconst 0, 1) := by decide +kernel
theorem dL_law_1017 : decode cL_law 1017 = .ok (.ireturn, 1) := by decide +kernel
theorem dL_law_1018 : decode cL_law 1018 = .ok (.goto 42, 3) := by decide +kernel
theorem dL_law_1021 : decode cL_law 1021 = .ok (.aload_n 1, 1) := by decide +kernel
theorem dL_law_1022 : decode cL_law 1022 = .ok (.invokevirtual 152, 3) := by decide +kernel
theorem dL_law_1025 : decode cL_law 1025 = .ok (.aload_n 2, 1) := by decide +kernel
theorem dL_law_1026 : decode cL_law 1026 = .ok (.invokevirtual 155, 3) := by decide +kernel
theorem dL_law_1029 : decode cL_law 1029 = .ok (.if_icmp .eq 31, 3) := by decide +kernel
theorem dL_law_1032 : decode cL_law 1032 = .ok (.iconst 0, 1) := by decide +kernel
theorem dL_law_1033 : decode cL_law 1033 = .ok (.ireturn, 1) := by decide +kernel
theorem dL_law_1034 : decode cL_law 1034 = .ok (.aload_n 1, 1) := by decide +kernel
theorem dL_law_1035 : decode cL_law 1035 = .ok (.invokevirtual 156, 3) := by decide +kernel
theorem dL_law_1038 : decode cL_law 1038 = .ok (.aload_n 2, 1) := by decide +kernel
theorem dL_law_1039 : decode cL_law 1039 = .ok (.invokevirtual 159, 3) := by decide +kernel
theorem dL_law_1042 : decode cL_law 1042 = .ok (.if_icmp .eq 18, 3) := by decide +kernel
theorem dL_law_1045 : decode cL_law 1045 = .ok (.iconst 0, 1) := by decide +kernel
theorem dL_law_1046 : decode cL_law 1046 = .ok (.ireturn, 1) := by decide +kernel
theorem dL_law_1047 : decode cL_law 1047 = .ok (.aload_n 1, 1) := by decide +kernel
theorem dL_law_1048 : decode cL_law 1048 = .ok (.invokevirtual 160, 3) := by decide +kernel
theorem dL_law_1051 : decode cL_law 1051 = .ok (.aload_n 2, 1) := by decide +kernel
theorem dL_law_1052 : decode cL_law 1052 = .ok (.invokevirtual 163, 3) := by decide +kernel
theorem dL_law_1055 : decode cL_law 1055 = .ok (.if_icmp .eq 5, 3) := by decide +kernel
theorem dL_law_1058 : decode cL_law 1058 = .ok (.iconst 0, 1) := by decide +kernel
theorem dL_law_1059 : decode cL_law 1059 = .ok (.ireturn, 1) := by decide +kernel
theorem dL_law_1060 : decode cL_law 1060 = .ok (.iinc 3 3, 3) := by decide +kernel
theorem dL_law_1063 : decode cL_law 1063 = .ok (.goto (-1045), 3) := by decide +kernel
theorem dL_law_1066 : decode cL_law 1066 = .ok (.iconst 1, 1) := by decide +kernel
theorem dL_law_1067 : decode cL_law 1067 = .ok (.ireturn, 1) := by decide +kernel
end
section
/-! FLAT MEMORY: the objects that are reached never change in number behind the constructors; each has a place; ints by place and slot -/
abbrev fm_M : Type := Nat → Nat → Int32
/-- a place: an array (kind 0 int, 1 char; length), or an object (class, fields: an int in the memory, null, a place) -/
abbrev fm_L : Type := (Nat × Nat) ⊕ (Nat × List (Option (Option Nat)))
def fm_cv (ad : Nat → Nat) (v : Value) : Value := match v with
  | .ref q => .ref (ad q)
  | v => v
theorem fm_cv_cat (ad : Nat → Nat) (v : Value) : (fm_cv ad v).category = v.category := by cases v <;> rfl
def fm_fv (ad : Nat → Nat) (f : Nat → Int32) (j : Nat) (o : Option (Option Nat)) : Value := match o with
  | none => .int (f j)
  | some none => .null
  | some (some q) => .ref (ad q)
def fm_fs (ad : Nat → Nat) (f : Nat → Int32) (l : List (Option (Option Nat))) : List Value := l.mapIdx (fm_fv ad f)
def fm_e (ad : Nat → Nat) (cI cC : ClassId) (mem : fm_M) (k : Nat) (e : fm_L) : Nat × va_E := match e with
  | .inl (t, n) => (ad k, .inl (if t = 0 then cI else cC, n, .inl (mem k)))
  | .inr (ci, l) => (ad k, .inr (ci, fm_fs ad (mem k) l))
def fm_W (ad : Nat → Nat) (cI cC : ClassId) (lay : List fm_L) (mem : fm_M) : va_W := lay.mapIdx (fm_e ad cI cC mem)
theorem fm_e_1 (ad : Nat → Nat) (cI cC : ClassId) (mem : fm_M) (k : Nat) (e : fm_L) : (fm_e ad cI cC mem k e).1 = ad k := by
  obtain ⟨t, n⟩ | ⟨ci, l⟩ := e <;> rfl
theorem fm_at {ad : Nat → Nat} {cI cC : ClassId} {lay : List fm_L} {mem : fm_M} {k : Nat} {e : fm_L} (h : lay[k]? = some e) : (fm_W ad cI cC lay mem)[k]? = some (fm_e ad cI cC mem k e) := by
  unfold fm_W
  rw [List.getElem?_mapIdx, h]
  rfl
theorem fm_of {ad : Nat → Nat} {cI cC : ClassId} {lay : List fm_L} {mem : fm_M} {k : Nat} {p : Nat × va_E} (h : (fm_W ad cI cC lay mem)[k]? = some p) : ∃ e, lay[k]? = some e ∧ p = fm_e ad cI cC mem k e := by
  unfold fm_W at h
  rw [List.getElem?_mapIdx] at h
  cases hl : lay[k]? with
  | none => rw [hl] at h; cases h
  | some e => rw [hl] at h; exact ⟨e, rfl, (Option.some.inj h).symm⟩
/-- one place is written: the others stay -/
def fm_up (mem : fm_M) (k : Nat) (f : Nat → Int32) : fm_M := fun j => if j = k then f else mem j
abbrev fm_put (mem : fm_M) (k i : Nat) (x : Int32) : fm_M := fm_up mem k (upd (mem k) i x)
theorem fm_up_s (mem : fm_M) (k : Nat) (f : Nat → Int32) : fm_up mem k f k = f := by simp [fm_up]
theorem fm_up_n (mem : fm_M) (k : Nat) (f : Nat → Int32) {j : Nat} (h : j ≠ k) : fm_up mem k f j = mem j := by simp [fm_up, h]
theorem fm_e_n (ad : Nat → Nat) (cI cC : ClassId) (mem mem' : fm_M) (k : Nat) (e : fm_L) (h : mem' k = mem k) : fm_e ad cI cC mem' k e = fm_e ad cI cC mem k e := by
  obtain ⟨t, n⟩ | ⟨ci, l⟩ := e <;> simp only [fm_e, h]
theorem fm_set {ad : Nat → Nat} {cI cC : ClassId} {lay : List fm_L} {mem : fm_M} {k : Nat} {e : fm_L} {f : Nat → Int32} (h : lay[k]? = some e) : (fm_W ad cI cC lay mem).set k (fm_e ad cI cC (fm_up mem k f) k e) = fm_W ad cI cC lay (fm_up mem k f) := by
  have hl : k < lay.length := (List.getElem?_eq_some_iff.mp h).1
  apply List.ext_getElem?
  intro j
  by_cases hj : j = k
  · subst hj
    rw [fm_at h, List.getElem?_set_self (by unfold fm_W; rw [List.length_mapIdx]; exact hl)]
  · rw [List.getElem?_set_ne (Ne.symm hj)]
    unfold fm_W
    rw [List.getElem?_mapIdx, List.getElem?_mapIdx]
    cases hq : lay[j]? with
    | none => rfl
    | some e' =>
      show some _ = some _
      rw [fm_e_n ad cI cC mem (fm_up mem k f) j e' (fm_up_n mem k f hj)]
theorem fm_fs_get {ad : Nat → Nat} {f : Nat → Int32} {l : List (Option (Option Nat))} {k : Nat} {o : Option (Option Nat)} (h : l[k]? = some o) : (fm_fs ad f l)[k]? = some (fm_fv ad f k o) := by
  unfold fm_fs
  rw [List.getElem?_mapIdx, h]
  rfl
theorem fm_fs_set {ad : Nat → Nat} {f : Nat → Int32} {l : List (Option (Option Nat))} {k : Nat} {x : Int32} (h : l[k]? = some none) : (fm_fs ad f l).set k (.int x) = fm_fs ad (upd f k x) l := by
  have hl : k < l.length := (List.getElem?_eq_some_iff.mp h).1
  apply List.ext_getElem?
  intro j
  by_cases hj : j = k
  · subst hj
    rw [fm_fs_get h, List.getElem?_set_self (by unfold fm_fs; rw [List.length_mapIdx]; exact hl)]
    simp [fm_fv, upd]
  · rw [List.getElem?_set_ne (Ne.symm hj)]
    unfold fm_fs
    rw [List.getElem?_mapIdx, List.getElem?_mapIdx]
    cases hq : l[j]? with
    | none => rfl
    | some o =>
      show some _ = some _
      congr 1
      cases o with
      | none => simp [fm_fv, upd, hj]
      | some o => cases o <;> rfl
theorem fm_e_put {ad : Nat → Nat} {cI cC : ClassId} {mem : fm_M} {q ci k : Nat} {l : List (Option (Option Nat))} {x : Int32} (h : l[k]? = some none) : fm_e ad cI cC (fm_put mem q k x) q (.inr (ci, l)) = (ad q, .inr (ci, (fm_fs ad (mem q) l).set k (.int x))) := by
  show (ad q, Sum.inr (ci, fm_fs ad (fm_up mem q (upd (mem q) k x) q) l)) = _
  rw [fm_up_s, fm_fs_set h]
theorem fm_e_arr {ad : Nat → Nat} {cI cC : ClassId} {mem : fm_M} {q t n : Nat} {f : Nat → Int32} : fm_e ad cI cC (fm_up mem q f) q (.inl (t, n)) = (ad q, .inl (if t = 0 then cI else cC, n, .inl f)) := by
  show (ad q, Sum.inl (_, n, Sum.inl (fm_up mem q f q))) = _
  rw [fm_up_s]
/-- the cells' addresses: apart, and in A -/
def fm_ap (ad : Nat → Nat) (n : Nat) : Prop := ∀ i j, i < n → j < n → ad i = ad j → i = j
def fm_A (ad : Nat → Nat) (n sz : Nat) : Nat → Prop := fun q => (∃ k, k < n ∧ q = ad k) ∨ sz ≤ q
theorem fm_D {ad : Nat → Nat} {cI cC : ClassId} {lay : List fm_L} {mem : fm_M} {A : Nat → Prop} : va_D A (fm_W ad cI cC lay mem) ↔ (fm_ap ad lay.length ∧ ∀ i, i < lay.length → A (ad i)) := by
  constructor
  · intro h
    refine ⟨fun i j hi hj e => ?_, fun i hi => ?_⟩
    · obtain ⟨x, hx⟩ : ∃ x, lay[i]? = some x := ⟨lay[i], List.getElem?_eq_getElem hi⟩
      obtain ⟨y, hy⟩ : ∃ y, lay[j]? = some y := ⟨lay[j], List.getElem?_eq_getElem hj⟩
      exact h.1 i j _ _ (fm_at hx) (fm_at hy) (by rw [fm_e_1, fm_e_1]; exact e)
    · obtain ⟨x, hx⟩ : ∃ x, lay[i]? = some x := ⟨lay[i], List.getElem?_eq_getElem hi⟩
      have := h.2 i _ (fm_at (ad := ad) (cI := cI) (cC := cC) (mem := mem) hx)
      rw [fm_e_1] at this
      exact this
  · intro h
    refine ⟨fun i j p q hp hq e => ?_, fun i p hp => ?_⟩
    · obtain ⟨x, hx, rfl⟩ := fm_of hp
      obtain ⟨y, hy, rfl⟩ := fm_of hq
      rw [fm_e_1, fm_e_1] at e
      exact h.1 i j (List.getElem?_eq_some_iff.mp hx).1 (List.getElem?_eq_some_iff.mp hy).1 e
    · obtain ⟨x, hx, rfl⟩ := fm_of hp
      rw [fm_e_1]
      exact h.2 i (List.getElem?_eq_some_iff.mp hx).1
/-! the words -/
def fm_G : List Cond := lw_tbl.filter goodWord
theorem fm_mem {w : Cond} (i : Nat) (h : lw_tbl[i]? = some w) (hg : goodWord w = true) : w ∈ fm_G := List.mem_filter.mpr ⟨List.mem_of_getElem? h, hg⟩
theorem fm_good {w : Cond} (h : w ∈ fm_G) : (w.onTables && w.keeps) = true ∨ ∃ ty, w = .arrayClass ty := good_of_word (List.mem_filter.mp h).2
theorem fm_G_tbl {w : Cond} (h : w ∈ fm_G) : w ∈ lw_tbl := (List.mem_filter.mp h).1
def fm_N : List Cond := [.methodLinkNest "PittanceHouse" 21 ⟨"PittanceHouse$Deeds", "<init>", "()V"⟩ "PittanceHouse", .methodLinkNest "PittanceHouse$Deeds" 20 ⟨"PittanceHouse$Ranks", "<init>", "()V"⟩ "PittanceHouse", .methodLinkNest "PittanceHouse" 28 ⟨"PittanceHouse$Ranks", "<init>", "()V"⟩ "PittanceHouse", .methodLinkNest "PittanceHouse" 35 ⟨"PittanceHouse$History", "<init>", "()V"⟩ "PittanceHouse", .methodLinkNest "PittanceHouse" 42 ⟨"PittanceHouse$Orders", "<init>", "()V"⟩ "PittanceHouse", .methodLinkNest "PittanceHouse$Deeds" 73 ⟨"PittanceHouse", "isCell", "(I)Z"⟩ "PittanceHouse", .methodLinkNest "PittanceHouse$Deeds" 90 ⟨"PittanceHouse", "isRule", "(I)Z"⟩ "PittanceHouse"]
theorem fm_N_warm {s U : State} (hW : s.WarmedH U.vm) (h : ∀ w ∈ fm_N, va_Nw w s) : ∀ w ∈ fm_N, va_Nw w U := by
  unfold fm_N at h ⊢
  simp only [List.forall_mem_cons] at h ⊢
  obtain ⟨h0, h1, h2, h3, h4, h5, h6, -⟩ := h
  exact ⟨va_Nw.warmM hW h0, va_Nw.warmM hW h1, va_Nw.warmM hW h2, va_Nw.warmM hW h3, va_Nw.warmM hW h4, va_Nw.warmM hW h5, va_Nw.warmM hW h6, fun _ h => absurd h List.not_mem_nil⟩
theorem fm_N_same {u U : State} (hv : u.vm = U.vm) (h : ∀ w ∈ fm_N, va_Nw w u) : ∀ w ∈ fm_N, va_Nw w U := by
  have ht : ∀ w ∈ fm_N, w.onTables = true := by decide +kernel
  exact fun w hw => va_Nw.same (ht w hw) hv (h w hw)
def fm_cp : List Nat := [82, 84, 86, 88, 90, 92, 94, 96]
def fm_tx : List String := ["voice ", "choose ", "leave ", "breach ", "pardon ", "feast ", "gift ", "weeks "]
def fm_len : List Nat := [6, 7, 6, 7, 7, 6, 5, 6]
def fm_byt : List (List Int32) := [[118, 111, 105, 99, 101, 32], [99, 104, 111, 111, 115, 101, 32], [108, 101, 97, 118, 101, 32], [98, 114, 101, 97, 99, 104, 32], [112, 97, 114, 100, 111, 110, 32], [102, 101, 97, 115, 116, 32], [103, 105, 102, 116, 32], [119, 101, 101, 107, 115, 32]]
/-- Strings and statics: text i stands at the place 1000 + i -/
def fm_X (ad : Nat → Nat) (A : Nat → Prop) (U : State) : Prop := vk_S 8 fm_len fm_byt (fun i => ad (1000 + i)) (fun i => ad (2000 + i)) A U U.heap ∧ (∀ i, i < 8 → vk_R RX2 (fm_cp.getD i 0) (fm_tx.getD i "") (ad (1000 + i)) U) ∧ va_Z "java/lang/String" "COMPACT_STRINGS" "Z" (.int 1) A U U.heap ∧ va_Z "jdk/internal/util/Preconditions" "SIOOBE_FORMATTER" "Ljava/util/function/BiFunction;" (.ref (ad 3000)) A U U.heap
theorem fm_X_call {ad : Nat → Nat} {A A1 : Nat → Prop} {s U : State} {H : Heap} {locs : List Loc} (h : fm_X ad A s) (hU : U.heap = H) (hW : s.WarmedH U.vm) (hS : va_S A s.heap H locs) (hA : ∀ q, A1 q → A q) : fm_X ad A1 U := by
  obtain ⟨h1, h2, h3, h4⟩ := h
  refine ⟨?_, fun i hi => (h2 i hi).warm hW, ?_, ?_⟩
  · rw [hU]; exact ((h1.kept hS.2.1).narrow hA).moved hW.alike
  · rw [hU]; exact ((h3.kept hS.2.1).narrow hA).moved hW.alike
  · rw [hU]; exact ((h4.kept hS.2.1).narrow hA).moved hW.alike
theorem fm_X_same {ad : Nat → Nat} {A : Nat → Prop} {u U : State} (h : fm_X ad A u) (hv : u.vm = U.vm) (hh : u.heap = U.heap) : fm_X ad A U := by
  obtain ⟨h1, h2, h3, h4⟩ := h
  have ha : u.vm.Alike U.vm := by rw [hv]; exact Vm.Alike.refl _
  rw [hh] at h1 h3 h4
  exact ⟨h1.moved ha, fun i hi => (h2 i hi).same hv.symm, h3.moved ha, h4.moved ha⟩
def fm_K (D : va_G) (cI cC : ClassId) (U : State) : Prop := va_K D vwCl [(cI, .int), (cC, .char)] U ∧ ∀ w ∈ fm_N, va_Nw w U
/-- a method: its name, code, locals, what it returns, its class -/
abbrev fm_Me : Type := MethodName × ByteArray × Nat × Option FieldType × String
def fm_ws (M : fm_Me) : List Cond := .code M.1 M.2.1 M.2.2.1 M.2.2.2.1 :: fm_G
def fm_rm (d : Nat) : Room := { frames := d, cells := 0, slots := 0, locals := 27 * d }
def fm_At (D : va_G) (cI cC : ClassId) (ad : Nat → Nat) (lay : List fm_L) (mem : fm_M) (A : Nat → Prop) (U : State) : Prop := fm_K D cI cC U ∧ fm_X ad A U ∧ va_P D vwCl (fm_W ad cI cC lay mem) U.heap ∧ va_D A (fm_W ad cI cC lay mem)
def fm_Q (D : va_G) (cI cC : ClassId) (ad : Nat → Nat) (lay : List fm_L) (Post : Option Value → fm_M → Prop) (A : Nat → Prop) : Array Value → State → Outcome → State → Prop := fun _ st oc t => (∃ (v : Option Value) (mem' : fm_M), oc = .returned (v.map (fm_cv ad)) ∧ Post v mem' ∧ va_P D vwCl (fm_W ad cI cC lay mem') t.heap) ∧ va_F A st t
/-- METHOD M's CONTRACT: called with these arguments over this memory, it returns so that Post -/
def fm_Met (lay : List fm_L) (d : Nat) (M : fm_Me) (as : List Value) (mem : fm_M) (Post : Option Value → fm_M → Prop) : Prop :=
  ∀ (l : Launch) (D : va_G) (cI cC : ClassId) (ad : Nat → Nat) (sz : Nat), MetD lw_cs l M.1 (fm_ws M) (fm_rm d) (va_Pc (as.map (fm_cv ad)) (fun U => U.heap.size = sz ∧ fm_At D cI cC ad lay mem (fm_A ad lay.length sz) U)) (fm_Q D cI cC ad lay Post (fm_A ad lay.length sz)) 0 0 (fm_A ad lay.length sz)
def fm_dr (s0 s : State) : Prop := ∃ d0, s = s0.setDrawn d0 ∧ s0.drawn.sameBut d0 lw_cs
def fm_C (d : Nat) (M : fm_Me) (p : Program) (R : Room) (s0 s : State) (m : MethodId) (args : Array Value) (meth : Method) (c : Code) (D : va_G) (cI cC : ClassId) (ad : Nat → Nat) (A : Nat → Prop) (cells slots : Nat) : Prop :=
  p.tables.exec = Jvm.exec ∧ c.code = M.2.1 ∧ c.maxLocals = M.2.2.1 ∧ meth.sig.returnType = M.2.2.2.1 ∧ s.vm.findClass M.2.2.2.2 = some m.cls ∧ meth.locks = false ∧ (∀ w ∈ fm_G, w.before args s = true) ∧ fm_K D cI cC s ∧ fm_X ad A s ∧ (d ≤ R.frames ∧ 27 * d ≤ R.locals ∧ cells ≤ R.cells ∧ slots ≤ R.slots) ∧ (∀ q, s.heap.size ≤ q → A q) ∧ fm_dr s0 s
def fm_has (ad : Nat → Nat) (nL : Nat) (sl : Array Slot) (ls : List (Option Value)) : Prop := sl.size = nL ∧ lv_wf sl ∧ ∀ (i : Nat) (v : Value), ls[i]? = some (some v) → v.category = 1 ∧ sl[i]? = some (.val (fm_cv ad v))
def fm_isR (M : fm_Me) (pc : Nat) (v : Option Value) : Prop := match v with
  | none => decode M.2.1 pc = .ok (.return_, 1) ∧ M.2.2.2.1 = none
  | some (.int x) => decode M.2.1 pc = .ok (.ireturn, 1) ∧ ∃ ty, M.2.2.2.1 = some ty ∧ narrow ty (.int x) = .int x
  | some (.ref _) => decode M.2.1 pc = .ok (.areturn, 1) ∧ ∃ n, M.2.2.2.1 = some (.object n)
  | some (.double _) => decode M.2.1 pc = .ok (.dreturn, 1) ∧ M.2.2.2.1 = some .double
  | some (.float _) => decode M.2.1 pc = .ok (.freturn, 1) ∧ M.2.2.2.1 = some .float
  | _ => False
def fm_R (lay : List fm_L) (M : fm_Me) (Post : Option Value → fm_M → Prop) (p : Program) (l : Launch) (e : Env) (R : Room) (s0 : State) (m : MethodId) (args : Array Value) (below : List Frame) (meth : Method) (c : Code) (D : va_G) (cI cC : ClassId) (ad : Nat → Nat) (A : Nat → Prop) (cells slots : Nat) (Q : State → Prop) : Prop :=
  ∀ (s : State) (H : Heap) (locs : List Loc) (sl : Array Slot) (pc : Nat) (v : Option Value) (mem : fm_M), fm_dr s0 s → Post v mem → va_P D vwCl (fm_W ad cI cC lay mem) H → va_S A s.heap H locs → fm_isR M pc v → W p l e R s m args below meth c H locs cells slots Q (F0 m pc sl ((v.map (fm_cv ad)).toList))
/-- the machine, at pc of method M with these locals and this stack over this memory, comes to a return with Post -/
def fm_Go (lay : List fm_L) (d : Nat) (M : fm_Me) (Post : Option Value → fm_M → Prop) (pc : Nat) (ls : List (Option Value)) (st : List Value) (mem : fm_M) : Prop :=
  ∀ (p : Program) (l : Launch) (e : Env) (R : Room) (s0 s : State) (m : MethodId) (args : Array Value) (below : List Frame) (meth : Method) (c : Code) (D : va_G) (cI cC : ClassId) (ad : Nat → Nat) (A : Nat → Prop) (cells slots : Nat) (H : Heap) (locs : List Loc) (sl : Array Slot) (Q : State → Prop),
    fm_C d M p R s0 s m args meth c D cI cC ad A cells slots → fm_has ad M.2.2.1 sl ls → va_P D vwCl (fm_W ad cI cC lay mem) H → va_D A (fm_W ad cI cC lay mem) → va_S A s.heap H locs → fm_R lay M Post p l e R s0 m args below meth c D cI cC ad A cells slots Q →
      W p l e R s m args below meth c H locs cells slots Q (F0 m pc sl (st.map (fm_cv ad)))
theorem fm_D_mem {ad : Nat → Nat} {cI cC : ClassId} {lay : List fm_L} {mem mem' : fm_M} {A : Nat → Prop} (h : va_D A (fm_W ad cI cC lay mem)) : va_D A (fm_W ad cI cC lay mem') := fm_D.mpr (fm_D.mp h)
/-- the arguments as locals -/
def fm_ent (n : Nat) (as : List Value) : List (Option Value) := as.map some ++ List.replicate (n - as.length) none
theorem fm_args (ad : Nat → Nat) : ∀ (as : List Value) (k : Nat), (∀ v ∈ as, v.category = 1) → ∀ (i : Nat) (v : Value), as[i]? = some v → (k + i, fm_cv ad v) ∈ lv_args k (as.map (fm_cv ad)) := by
  intro as
  induction as with
  | nil => intro k _ i v h; simp at h
  | cons a as ih =>
    intro k hc i v h
    have ha : ¬ (fm_cv ad a).category = 2 := by rw [fm_cv_cat, hc a List.mem_cons_self]; decide
    show _ ∈ (k, fm_cv ad a) :: lv_args (if (fm_cv ad a).category = 2 then k + 2 else k + 1) (as.map (fm_cv ad))
    rw [if_neg ha]
    cases i with
    | zero => rw [List.getElem?_cons_zero] at h; cases h; exact List.mem_cons_self
    | succ i =>
      rw [List.getElem?_cons_succ] at h
      have := ih (k + 1) (fun v hv => hc v (List.mem_cons_of_mem _ hv)) i v h
      rw [show k + (i + 1) = k + 1 + i by omega]
      exact List.mem_cons_of_mem _ this
theorem fm_sl_len (ad : Nat → Nat) : ∀ (as : List Value), (∀ v ∈ as, v.category = 1) → (lg_sl (as.map (fm_cv ad))).length = as.length := by
  intro as
  induction as with
  | nil => intro _; rfl
  | cons a as ih =>
    intro hc
    have ha : ¬ (fm_cv ad a).category = 2 := by rw [fm_cv_cat, hc a List.mem_cons_self]; decide
    have h1 : lg_sl ((a :: as).map (fm_cv ad)) = [.val (fm_cv ad a)] ++ lg_sl (as.map (fm_cv ad)) := by
      simp only [lg_sl, List.map_cons, List.flatMap_cons, if_neg ha]
    rw [h1, List.length_append, ih (fun v hv => hc v (List.mem_cons_of_mem _ hv))]
    simp; omega
theorem fm_entry (ad : Nat → Nat) {as : List Value} {n : Nat} (hc : ∀ v ∈ as, v.category = 1) (hn : as.length ≤ n) : fm_has ad n ((lg_sl (as.map (fm_cv ad)) ++ List.replicate (n - (lg_sl (as.map (fm_cv ad))).length) Slot.unset).toArray) (fm_ent n as) := by
  have hl := lv_entry (as.map (fm_cv ad)) (n := n) (by rw [fm_sl_len ad as hc]; exact hn)
  refine ⟨hl.1, hl.2.1, fun i v h => ?_⟩
  have h1 : as[i]? = some v := by
    unfold fm_ent at h
    by_cases hi : i < as.length
    · rw [List.getElem?_append_left (by rw [List.length_map]; exact hi), List.getElem?_map] at h
      cases hq : as[i]? with
      | none => rw [hq] at h; cases h
      | some w => rw [hq] at h; cases h; rfl
    · rw [List.getElem?_append_right (by rw [List.length_map]; omega), List.getElem?_replicate] at h
      split at h <;> cases h
  refine ⟨hc v (List.mem_of_getElem? h1), ?_⟩
  have h2 := hl.2.2 _ (fm_args ad as 0 hc i v h1)
  rw [Nat.zero_add] at h2
  exact h2
set_option maxHeartbeats 4000000 in
/-- a method's contract out of the walk of its body -/
theorem fm_Met_of {lay : List fm_L} {d : Nat} {M : fm_Me} {as : List Value} {mem : fm_M} {Post : Option Value → fm_M → Prop} {ls : List (Option Value)} (hy : plainName M.1.cls = true) (how : M.2.2.2.2 = M.1.cls) (hc : ∀ v ∈ as, v.category = 1) (hn : as.length ≤ M.2.2.1) (hls : fm_ent M.2.2.1 as = ls) (body : fm_Go lay d M Post 0 ls [] mem) : fm_Met lay d M as mem Post := by
  subst hls
  intro l D cI cC ad sz
  refine MetD.ofW (cc := M.2.1) (maxL := M.2.2.1) (ret := M.2.2.2.1) hy rfl ?_
  intro p e s m args below meth c s₁ B hml hv hd0
  obtain ⟨rfl, hsz, hK, hX, hP, hD⟩ := hv
  have hts := atoms_spec (ws := fm_ws M) B.pre
  have hlocks := B.notSynchronized
  subst hsz
  rw [lg_entry_eq]
  refine body p l e _ s (s.setDrawn s.drawn) m _ below meth c D cI cC ad (fm_A ad lay.length s.heap.size) 0 0 s.heap [] _ _ ⟨B.exec, B.bytes, hml, B.returns, by rw [how]; exact findClass_of_methodNamed B.named, hlocks, fun w hw => hts w (List.mem_cons_of_mem _ hw), hK, hX, ⟨Nat.le_refl _, Nat.le_refl _, Nat.zero_le _, Nat.zero_le _⟩, fun q h => Or.inr h, s.drawn, rfl, hd0⟩ (fm_entry ad hc hn) hP hD va_S.rf ?_
  intro s' H' locs' sl' pc' v mem' ⟨d1, e1, hd1⟩ hPost hP' hS' hret
  subst e1
  refine W.endD hd1 ?_
  have hq : ∀ t : State, t.heap = H' → (s.setDrawn d1).WarmedH t.vm → fm_Q D cI cC ad lay Post (fm_A ad lay.length s.heap.size) (as.map (fm_cv ad)).toArray (s.setDrawn d1) (.returned (v.map (fm_cv ad))) t := fun t ht hW => ⟨⟨v, mem', rfl, hPost, by rw [ht]; exact hP'⟩, hS'.F ht⟩
  cases v with
  | none => exact W.vret B.exec B.bytes (by rw [B.returns]; exact hret.2) hq hS'.2.2 hret.1
  | some v =>
    cases v with
    | int x => obtain ⟨h1, ty, h2, h3⟩ := hret; exact W.zret B.exec B.bytes (ty := ty) (by rw [B.returns]; exact h2) h3 hq hS'.2.2 h1
    | ref a => obtain ⟨h1, n, h2⟩ := hret; exact W.aret B.exec B.bytes (rt := .object n) (by rw [B.returns]; exact h2) (Or.inl ⟨n, rfl⟩) (Or.inr ⟨_, rfl⟩) hq hS'.2.2 h1
    | double x => exact W.dret B.exec B.bytes (by rw [B.returns]; exact hret.2) hq hS'.2.2 hret.1
    | float x => exact W.fret B.exec B.bytes (by rw [B.returns]; exact hret.2) hq hS'.2.2 hret.1
    | _ => exact hret.elim
end
section
theorem fm_minS : Cond.static Lib.Math.min.name ∈ fm_G := fm_mem 266 (by decide +kernel) (by decide +kernel)
theorem fm_minI : Cond.initialized "java/lang/Math" ∈ fm_G := fm_mem 88 (by decide +kernel) (by decide +kernel)
theorem fm_minC : Cond.code Lib.Math.min.name Lib.Math.min.code 2 (some .int) ∈ fm_G := fm_mem 267 (by decide +kernel) (by decide +kernel)
theorem fm_maxS : Cond.static Lib.Math.max.name ∈ fm_G := fm_mem 203 (by decide +kernel) (by decide +kernel)
theorem fm_maxC : Cond.code Lib.Math.max.name Lib.Math.max.code 2 (some .int) ∈ fm_G := fm_mem 204 (by decide +kernel) (by decide +kernel)
theorem fm_cpyN : Cond.native arraycopyName ∈ fm_G := fm_mem 270 (by decide +kernel) (by decide +kernel)
theorem fm_cpyS : Cond.static arraycopyName ∈ fm_G := fm_mem 269 (by decide +kernel) (by decide +kernel)
theorem fm_cpyI : Cond.initialized "java/lang/System" ∈ fm_G := fm_mem 90 (by decide +kernel) (by decide +kernel)
theorem go_iconst {lay : List fm_L} {d : Nat} {M : fm_Me} {Post : Option Value → fm_M → Prop} {pc : Nat} {ls : List (Option Value)} {st : List Value} {mem : fm_M} {n : Int} {v : Int32} (hd : decode M.2.1 pc = .ok (.iconst n, 1)) (hv : Int32.ofInt n = v) (kk : fm_Go lay d M Post (pc + 1) ls (.int v :: st) mem) : fm_Go lay d M Post pc ls st mem := by
  intro p l e R s0 s m args below meth c D cI cC ad A cells slots H locs sl Q C hl hP hD hS hR
  exact lv_iconst C.1 C.2.1 hd hv (kk p l e R s0 s m args below meth c D cI cC ad A cells slots H locs sl Q C hl hP hD hS hR)
theorem go_bipush {lay : List fm_L} {d : Nat} {M : fm_Me} {Post : Option Value → fm_M → Prop} {pc : Nat} {ls : List (Option Value)} {st : List Value} {mem : fm_M} {n : Int} {v : Int32} (hd : decode M.2.1 pc = .ok (.bipush n, 2)) (hv : (Int8.ofInt n).toInt32 = v) (kk : fm_Go lay d M Post (pc + 2) ls (.int v :: st) mem) : fm_Go lay d M Post pc ls st mem := by
  intro p l e R s0 s m args below meth c D cI cC ad A cells slots H locs sl Q C hl hP hD hS hR
  exact lv_bipush C.1 C.2.1 hd hv (kk p l e R s0 s m args below meth c D cI cC ad A cells slots H locs sl Q C hl hP hD hS hR)
theorem go_sipush {lay : List fm_L} {d : Nat} {M : fm_Me} {Post : Option Value → fm_M → Prop} {pc : Nat} {ls : List (Option Value)} {st : List Value} {mem : fm_M} {n : Int} {v : Int32} (hd : decode M.2.1 pc = .ok (.sipush n, 3)) (hv : (Int16.ofInt n).toInt32 = v) (kk : fm_Go lay d M Post (pc + 3) ls (.int v :: st) mem) : fm_Go lay d M Post pc ls st mem := by
  intro p l e R s0 s m args below meth c D cI cC ad A cells slots H locs sl Q C hl hP hD hS hR
  exact lv_sipush C.1 C.2.1 hd hv (kk p l e R s0 s m args below meth c D cI cC ad A cells slots H locs sl Q C hl hP hD hS hR)
theorem go_iload_n {lay : List fm_L} {d : Nat} {M : fm_Me} {Post : Option Value → fm_M → Prop} {pc : Nat} {ls : List (Option Value)} {st : List Value} {mem : fm_M} {k : Fin 4} {i : Nat} {x : Int32} (hd : decode M.2.1 pc = .ok (.iload_n k, 1)) (hi : (k : Nat) = i) (hv : ls[i]? = some (some (.int x))) (kk : fm_Go lay d M Post (pc + 1) ls (.int x :: st) mem) : fm_Go lay d M Post pc ls st mem := by
  intro p l e R s0 s m args below meth c D cI cC ad A cells slots H locs sl Q C hl hP hD hS hR
  exact lv_iload_n C.1 C.2.1 hd hi (hl.2.2 _ _ hv).2 (kk p l e R s0 s m args below meth c D cI cC ad A cells slots H locs sl Q C hl hP hD hS hR)
theorem go_iload {lay : List fm_L} {d : Nat} {M : fm_Me} {Post : Option Value → fm_M → Prop} {pc : Nat} {ls : List (Option Value)} {st : List Value} {mem : fm_M} {i : Nat} {x : Int32} (hd : decode M.2.1 pc = .ok (.iload i, 2)) (hv : ls[i]? = some (some (.int x))) (kk : fm_Go lay d M Post (pc + 2) ls (.int x :: st) mem) : fm_Go lay d M Post pc ls st mem := by
  intro p l e R s0 s m args below meth c D cI cC ad A cells slots H locs sl Q C hl hP hD hS hR
  exact lv_iload C.1 C.2.1 hd (hl.2.2 _ _ hv).2 (kk p l e R s0 s m args below meth c D cI cC ad A cells slots H locs sl Q C hl hP hD hS hR)
theorem go_aload_n {lay : List fm_L} {d : Nat} {M : fm_Me} {Post : Option Value → fm_M → Prop} {pc : Nat} {ls : List (Option Value)} {st : List Value} {mem : fm_M} {k : Fin 4} {i : Nat} {x : Nat} (hd : decode M.2.1 pc = .ok (.aload_n k, 1)) (hi : (k : Nat) = i) (hv : ls[i]? = some (some (.ref x))) (kk : fm_Go lay d M Post (pc + 1) ls (.ref x :: st) mem) : fm_Go lay d M Post pc ls st mem := by
  intro p l e R s0 s m args below meth c D cI cC ad A cells slots H locs sl Q C hl hP hD hS hR
  exact lv_aload_n C.1 C.2.1 hd hi (hl.2.2 _ _ hv).2 (kk p l e R s0 s m args below meth c D cI cC ad A cells slots H locs sl Q C hl hP hD hS hR)
theorem go_aload {lay : List fm_L} {d : Nat} {M : fm_Me} {Post : Option Value → fm_M → Prop} {pc : Nat} {ls : List (Option Value)} {st : List Value} {mem : fm_M} {i : Nat} {x : Nat} (hd : decode M.2.1 pc = .ok (.aload i, 2)) (hv : ls[i]? = some (some (.ref x))) (kk : fm_Go lay d M Post (pc + 2) ls (.ref x :: st) mem) : fm_Go lay d M Post pc ls st mem := by
  intro p l e R s0 s m args below meth c D cI cC ad A cells slots H locs sl Q C hl hP hD hS hR
  exact lv_aload C.1 C.2.1 hd (hl.2.2 _ _ hv).2 (kk p l e R s0 s m args below meth c D cI cC ad A cells slots H locs sl Q C hl hP hD hS hR)
/-- the locals that are known, as the kit's rows take them -/
def fm_kn (ad : Nat → Nat) (ls : List (Option Value)) : List (Nat × Value) := ((List.range ls.length).filterMap (fun i => match ls[i]? with | some (some v) => some (i, fm_cv ad v) | _ => none))
theorem fm_kn_in {ad : Nat → Nat} {ls : List (Option Value)} {i : Nat} {w : Value} : (i, w) ∈ fm_kn ad ls ↔ ∃ v, ls[i]? = some (some v) ∧ w = fm_cv ad v := by
  unfold fm_kn
  rw [List.mem_filterMap]
  constructor
  · rintro ⟨j, hj, h⟩
    cases hq : ls[j]? with
    | none => rw [hq] at h; cases h
    | some o =>
      cases o with
      | none => rw [hq] at h; cases h
      | some v =>
        rw [hq] at h
        cases h
        exact ⟨v, hq, rfl⟩
  · rintro ⟨v, h, rfl⟩
    exact ⟨i, List.mem_range.mpr (List.getElem?_eq_some_iff.mp h).1, by rw [h]⟩
theorem fm_has_kn {ad : Nat → Nat} {nL : Nat} {sl : Array Slot} {ls : List (Option Value)} (h : fm_has ad nL sl ls) : lv_has sl nL (fm_kn ad ls) := by
  refine ⟨h.1, h.2.1, fun q hq => ?_⟩
  obtain ⟨i, w⟩ := q
  obtain ⟨v, h1, rfl⟩ := fm_kn_in.mp hq
  exact (h.2.2 i v h1).2
theorem fm_has_set {ad : Nat → Nat} {nL : Nat} {sl sl' : Array Slot} {ls : List (Option Value)} {i : Nat} {v : Value} (h : fm_has ad nL sl ls) (hv : v.category = 1) (h' : lv_has sl' nL ((i, fm_cv ad v) :: (fm_kn ad ls).filter (fun q => !(q.1 == i) && !(q.1 + 1 == i && q.2.category == 2)))) : fm_has ad nL sl' (ls.set i (some v)) := by
  refine ⟨h'.1, h'.2.1, fun j w hj => ?_⟩
  rw [List.getElem?_set] at hj
  split at hj
  next e =>
    subst e
    split at hj
    next => cases hj; exact ⟨hv, h'.2.2 _ List.mem_cons_self⟩
    next => cases hj
  next e =>
    have h1 := h.2.2 j w hj
    refine ⟨h1.1, h'.2.2 (j, fm_cv ad w) (List.mem_cons_of_mem _ (List.mem_filter.mpr ⟨fm_kn_in.mpr ⟨w, hj, rfl⟩, ?_⟩))⟩
    have e1 : (j == i) = false := by simp only [beq_eq_false_iff_ne]; exact fun z => e z.symm
    have e2 : ((fm_cv ad w).category == 2) = false := by rw [fm_cv_cat, h1.1]; rfl
    simp [e1, e2]
theorem go_istore_n {lay : List fm_L} {d : Nat} {M : fm_Me} {Post : Option Value → fm_M → Prop} {pc : Nat} {ls : List (Option Value)} {st : List Value} {mem : fm_M} {k : Fin 4} {i : Nat} {x : Int32} (hd : decode M.2.1 pc = .ok (.istore_n k, 1)) (hi : (k : Nat) = i) (hn : i < M.2.2.1) {ls1 : List (Option Value)} (h1 : ls.set i (some (.int x)) = ls1) (kk : fm_Go lay d M Post (pc + 1) ls1 st mem) : fm_Go lay d M Post pc ls (.int x :: st) mem := by
  intro p l e R s0 s m args below meth c D cI cC ad A cells slots H locs sl Q C hl hP hD hS hR
  subst h1
  exact lv_istore_n C.1 C.2.1 hd hi (fm_has_kn hl) hn rfl (fun sl1 hl1 => kk p l e R s0 s m args below meth c D cI cC ad A cells slots H locs sl1 Q C (fm_has_set hl rfl hl1) hP hD hS hR)
theorem go_istore {lay : List fm_L} {d : Nat} {M : fm_Me} {Post : Option Value → fm_M → Prop} {pc : Nat} {ls : List (Option Value)} {st : List Value} {mem : fm_M} {i : Nat} {x : Int32} (hd : decode M.2.1 pc = .ok (.istore i, 2)) (hn : i < M.2.2.1) {ls1 : List (Option Value)} (h1 : ls.set i (some (.int x)) = ls1) (kk : fm_Go lay d M Post (pc + 2) ls1 st mem) : fm_Go lay d M Post pc ls (.int x :: st) mem := by
  intro p l e R s0 s m args below meth c D cI cC ad A cells slots H locs sl Q C hl hP hD hS hR
  subst h1
  exact lv_istore C.1 C.2.1 hd (fm_has_kn hl) hn rfl (fun sl1 hl1 => kk p l e R s0 s m args below meth c D cI cC ad A cells slots H locs sl1 Q C (fm_has_set hl rfl hl1) hP hD hS hR)
theorem go_astore_n {lay : List fm_L} {d : Nat} {M : fm_Me} {Post : Option Value → fm_M → Prop} {pc : Nat} {ls : List (Option Value)} {st : List Value} {mem : fm_M} {k : Fin 4} {i : Nat} {x : Nat} (hd : decode M.2.1 pc = .ok (.astore_n k, 1)) (hi : (k : Nat) = i) (hn : i < M.2.2.1) {ls1 : List (Option Value)} (h1 : ls.set i (some (.ref x)) = ls1) (kk : fm_Go lay d M Post (pc + 1) ls1 st mem) : fm_Go lay d M Post pc ls (.ref x :: st) mem := by
  intro p l e R s0 s m args below meth c D cI cC ad A cells slots H locs sl Q C hl hP hD hS hR
  subst h1
  exact lv_astore_n C.1 C.2.1 hd hi (fm_has_kn hl) hn rfl (fun sl1 hl1 => kk p l e R s0 s m args below meth c D cI cC ad A cells slots H locs sl1 Q C (fm_has_set hl rfl hl1) hP hD hS hR)
theorem go_astore {lay : List fm_L} {d : Nat} {M : fm_Me} {Post : Option Value → fm_M → Prop} {pc : Nat} {ls : List (Option Value)} {st : List Value} {mem : fm_M} {i : Nat} {x : Nat} (hd : decode M.2.1 pc = .ok (.astore i, 2)) (hn : i < M.2.2.1) {ls1 : List (Option Value)} (h1 : ls.set i (some (.ref x)) = ls1) (kk : fm_Go lay d M Post (pc + 2) ls1 st mem) : fm_Go lay d M Post pc ls (.ref x :: st) mem := by
  intro p l e R s0 s m args below meth c D cI cC ad A cells slots H locs sl Q C hl hP hD hS hR
  subst h1
  exact lv_astore C.1 C.2.1 hd (fm_has_kn hl) hn rfl (fun sl1 hl1 => kk p l e R s0 s m args below meth c D cI cC ad A cells slots H locs sl1 Q C (fm_has_set hl rfl hl1) hP hD hS hR)
theorem go_iinc {lay : List fm_L} {d : Nat} {M : fm_Me} {Post : Option Value → fm_M → Prop} {pc : Nat} {ls : List (Option Value)} {st : List Value} {mem : fm_M} {i : Nat} {n : Int} {x v : Int32} (hd : decode M.2.1 pc = .ok (.iinc i n, 3)) (hx : ls[i]? = some (some (.int x))) (hv : x + Int32.ofInt n = v) (hn : i < M.2.2.1) {ls1 : List (Option Value)} (h1 : ls.set i (some (.int v)) = ls1) (kk : fm_Go lay d M Post (pc + 3) ls1 st mem) : fm_Go lay d M Post pc ls st mem := by
  intro p l e R s0 s m args below meth c D cI cC ad A cells slots H locs sl Q C hl hP hD hS hR
  subst h1
  obtain ⟨k, hk⟩ := List.getElem?_of_mem (fm_kn_in.mpr ⟨_, hx, rfl⟩ : (i, fm_cv ad (.int x)) ∈ fm_kn ad ls)
  exact lv_iinc (k := k) (x := x) C.1 C.2.1 hd (fm_has_kn hl) hk hv hn rfl (fun sl1 hl1 => kk p l e R s0 s m args below meth c D cI cC ad A cells slots H locs sl1 Q C (fm_has_set hl rfl hl1) hP hD hS hR)
theorem go_iadd {lay : List fm_L} {d : Nat} {M : fm_Me} {Post : Option Value → fm_M → Prop} {pc : Nat} {ls : List (Option Value)} {st : List Value} {mem : fm_M} {x y : Int32} (hd : decode M.2.1 pc = .ok (.iadd, 1)) (kk : fm_Go lay d M Post (pc + 1) ls (.int (x + y) :: st) mem) : fm_Go lay d M Post pc ls (.int y :: .int x :: st) mem := by
  intro p l e R s0 s m args below meth c D cI cC ad A cells slots H locs sl Q C hl hP hD hS hR
  exact lv_iadd C.1 C.2.1 hd (kk p l e R s0 s m args below meth c D cI cC ad A cells slots H locs sl Q C hl hP hD hS hR)
theorem go_isub {lay : List fm_L} {d : Nat} {M : fm_Me} {Post : Option Value → fm_M → Prop} {pc : Nat} {ls : List (Option Value)} {st : List Value} {mem : fm_M} {x y : Int32} (hd : decode M.2.1 pc = .ok (.isub, 1)) (kk : fm_Go lay d M Post (pc + 1) ls (.int (x - y) :: st) mem) : fm_Go lay d M Post pc ls (.int y :: .int x :: st) mem := by
  intro p l e R s0 s m args below meth c D cI cC ad A cells slots H locs sl Q C hl hP hD hS hR
  exact lv_isub C.1 C.2.1 hd (kk p l e R s0 s m args below meth c D cI cC ad A cells slots H locs sl Q C hl hP hD hS hR)
theorem go_imul {lay : List fm_L} {d : Nat} {M : fm_Me} {Post : Option Value → fm_M → Prop} {pc : Nat} {ls : List (Option Value)} {st : List Value} {mem : fm_M} {x y : Int32} (hd : decode M.2.1 pc = .ok (.imul, 1)) (kk : fm_Go lay d M Post (pc + 1) ls (.int (x * y) :: st) mem) : fm_Go lay d M Post pc ls (.int y :: .int x :: st) mem := by
  intro p l e R s0 s m args below meth c D cI cC ad A cells slots H locs sl Q C hl hP hD hS hR
  exact lv_imul C.1 C.2.1 hd (kk p l e R s0 s m args below meth c D cI cC ad A cells slots H locs sl Q C hl hP hD hS hR)
theorem go_iand {lay : List fm_L} {d : Nat} {M : fm_Me} {Post : Option Value → fm_M → Prop} {pc : Nat} {ls : List (Option Value)} {st : List Value} {mem : fm_M} {x y : Int32} (hd : decode M.2.1 pc = .ok (.iand, 1)) (kk : fm_Go lay d M Post (pc + 1) ls (.int (x &&& y) :: st) mem) : fm_Go lay d M Post pc ls (.int y :: .int x :: st) mem := by
  intro p l e R s0 s m args below meth c D cI cC ad A cells slots H locs sl Q C hl hP hD hS hR
  exact lv_iand C.1 C.2.1 hd (kk p l e R s0 s m args below meth c D cI cC ad A cells slots H locs sl Q C hl hP hD hS hR)
theorem go_ior {lay : List fm_L} {d : Nat} {M : fm_Me} {Post : Option Value → fm_M → Prop} {pc : Nat} {ls : List (Option Value)} {st : List Value} {mem : fm_M} {x y : Int32} (hd : decode M.2.1 pc = .ok (.ior, 1)) (kk : fm_Go lay d M Post (pc + 1) ls (.int (x ||| y) :: st) mem) : fm_Go lay d M Post pc ls (.int y :: .int x :: st) mem := by
  intro p l e R s0 s m args below meth c D cI cC ad A cells slots H locs sl Q C hl hP hD hS hR
  exact lv_ior C.1 C.2.1 hd (kk p l e R s0 s m args below meth c D cI cC ad A cells slots H locs sl Q C hl hP hD hS hR)
theorem go_ishl {lay : List fm_L} {d : Nat} {M : fm_Me} {Post : Option Value → fm_M → Prop} {pc : Nat} {ls : List (Option Value)} {st : List Value} {mem : fm_M} {x y : Int32} (hd : decode M.2.1 pc = .ok (.ishl, 1)) (kk : fm_Go lay d M Post (pc + 1) ls (.int (x <<< (y &&& 31)) :: st) mem) : fm_Go lay d M Post pc ls (.int y :: .int x :: st) mem := by
  intro p l e R s0 s m args below meth c D cI cC ad A cells slots H locs sl Q C hl hP hD hS hR
  exact lv_ishl C.1 C.2.1 hd (kk p l e R s0 s m args below meth c D cI cC ad A cells slots H locs sl Q C hl hP hD hS hR)
theorem go_ishr {lay : List fm_L} {d : Nat} {M : fm_Me} {Post : Option Value → fm_M → Prop} {pc : Nat} {ls : List (Option Value)} {st : List Value} {mem : fm_M} {x y : Int32} (hd : decode M.2.1 pc = .ok (.ishr, 1)) (kk : fm_Go lay d M Post (pc + 1) ls (.int (x >>> (y &&& 31)) :: st) mem) : fm_Go lay d M Post pc ls (.int y :: .int x :: st) mem := by
  intro p l e R s0 s m args below meth c D cI cC ad A cells slots H locs sl Q C hl hP hD hS hR
  exact lv_ishr C.1 C.2.1 hd (kk p l e R s0 s m args below meth c D cI cC ad A cells slots H locs sl Q C hl hP hD hS hR)
theorem go_idiv {lay : List fm_L} {d : Nat} {M : fm_Me} {Post : Option Value → fm_M → Prop} {pc : Nat} {ls : List (Option Value)} {st : List Value} {mem : fm_M} {x y : Int32} (hd : decode M.2.1 pc = .ok (.idiv, 1)) (hne : ¬ y = 0) (kk : fm_Go lay d M Post (pc + 1) ls (.int (x / y) :: st) mem) : fm_Go lay d M Post pc ls (.int y :: .int x :: st) mem := by
  intro p l e R s0 s m args below meth c D cI cC ad A cells slots H locs sl Q C hl hP hD hS hR
  exact lv_idiv C.1 C.2.1 hd hne (kk p l e R s0 s m args below meth c D cI cC ad A cells slots H locs sl Q C hl hP hD hS hR)
theorem go_irem {lay : List fm_L} {d : Nat} {M : fm_Me} {Post : Option Value → fm_M → Prop} {pc : Nat} {ls : List (Option Value)} {st : List Value} {mem : fm_M} {x y : Int32} (hd : decode M.2.1 pc = .ok (.irem, 1)) (hne : ¬ y = 0) (kk : fm_Go lay d M Post (pc + 1) ls (.int (x - x / y * y) :: st) mem) : fm_Go lay d M Post pc ls (.int y :: .int x :: st) mem := by
  intro p l e R s0 s m args below meth c D cI cC ad A cells slots H locs sl Q C hl hP hD hS hR
  exact lv_irem C.1 C.2.1 hd hne (kk p l e R s0 s m args below meth c D cI cC ad A cells slots H locs sl Q C hl hP hD hS hR)
theorem go_i2c {lay : List fm_L} {d : Nat} {M : fm_Me} {Post : Option Value → fm_M → Prop} {pc : Nat} {ls : List (Option Value)} {st : List Value} {mem : fm_M} {x : Int32} (hd : decode M.2.1 pc = .ok (.i2c, 1)) (kk : fm_Go lay d M Post (pc + 1) ls (.int (x.toUInt32 % 65536).toInt32 :: st) mem) : fm_Go lay d M Post pc ls (.int x :: st) mem := by
  intro p l e R s0 s m args below meth c D cI cC ad A cells slots H locs sl Q C hl hP hD hS hR
  exact lv_i2c C.1 C.2.1 hd rfl (kk p l e R s0 s m args below meth c D cI cC ad A cells slots H locs sl Q C hl hP hD hS hR)
theorem go_i2f {lay : List fm_L} {d : Nat} {M : fm_Me} {Post : Option Value → fm_M → Prop} {pc : Nat} {ls : List (Option Value)} {st : List Value} {mem : fm_M} {x : Int32} (hd : decode M.2.1 pc = .ok (.i2f, 1)) (kk : fm_Go lay d M Post (pc + 1) ls (.float (FP.i2f x) :: st) mem) : fm_Go lay d M Post pc ls (.int x :: st) mem := by
  intro p l e R s0 s m args below meth c D cI cC ad A cells slots H locs sl Q C hl hP hD hS hR
  exact lv_i2f C.1 C.2.1 hd (kk p l e R s0 s m args below meth c D cI cC ad A cells slots H locs sl Q C hl hP hD hS hR)
theorem go_i2d {lay : List fm_L} {d : Nat} {M : fm_Me} {Post : Option Value → fm_M → Prop} {pc : Nat} {ls : List (Option Value)} {st : List Value} {mem : fm_M} {x : Int32} (hd : decode M.2.1 pc = .ok (.i2d, 1)) (kk : fm_Go lay d M Post (pc + 1) ls (.double (FP.i2d x) :: st) mem) : fm_Go lay d M Post pc ls (.int x :: st) mem := by
  intro p l e R s0 s m args below meth c D cI cC ad A cells slots H locs sl Q C hl hP hD hS hR
  exact lv_i2d C.1 C.2.1 hd (kk p l e R s0 s m args below meth c D cI cC ad A cells slots H locs sl Q C hl hP hD hS hR)
theorem go_dup {lay : List fm_L} {d : Nat} {M : fm_Me} {Post : Option Value → fm_M → Prop} {pc : Nat} {ls : List (Option Value)} {st : List Value} {mem : fm_M} {v : Value} (hd : decode M.2.1 pc = .ok (.dup, 1)) (hv : v.category = 1) (kk : fm_Go lay d M Post (pc + 1) ls (v :: v :: st) mem) : fm_Go lay d M Post pc ls (v :: st) mem := by
  intro p l e R s0 s m args below meth c D cI cC ad A cells slots H locs sl Q C hl hP hD hS hR
  exact lv_dup C.1 C.2.1 hd (by rw [fm_cv_cat]; exact hv) (kk p l e R s0 s m args below meth c D cI cC ad A cells slots H locs sl Q C hl hP hD hS hR)
theorem go_pop {lay : List fm_L} {d : Nat} {M : fm_Me} {Post : Option Value → fm_M → Prop} {pc : Nat} {ls : List (Option Value)} {st : List Value} {mem : fm_M} {v : Value} (hd : decode M.2.1 pc = .ok (.pop, 1)) (hv : v.category = 1) (kk : fm_Go lay d M Post (pc + 1) ls st mem) : fm_Go lay d M Post pc ls (v :: st) mem := by
  intro p l e R s0 s m args below meth c D cI cC ad A cells slots H locs sl Q C hl hP hD hS hR
  exact lv_pop C.1 C.2.1 hd (by rw [fm_cv_cat]; exact hv) (kk p l e R s0 s m args below meth c D cI cC ad A cells slots H locs sl Q C hl hP hD hS hR)
theorem go_dup2 {lay : List fm_L} {d : Nat} {M : fm_Me} {Post : Option Value → fm_M → Prop} {pc : Nat} {ls : List (Option Value)} {st : List Value} {mem : fm_M} {v w : Value} (hd : decode M.2.1 pc = .ok (.dup2, 1)) (hv : v.category = 1) (hw : w.category = 1) (kk : fm_Go lay d M Post (pc + 1) ls (v :: w :: v :: w :: st) mem) : fm_Go lay d M Post pc ls (v :: w :: st) mem := by
  intro p l e R s0 s m args below meth c D cI cC ad A cells slots H locs sl Q C hl hP hD hS hR
  exact lv_dup2_11 C.1 C.2.1 hd (by rw [fm_cv_cat]; exact hv) (by rw [fm_cv_cat]; exact hw) (kk p l e R s0 s m args below meth c D cI cC ad A cells slots H locs sl Q C hl hP hD hS hR)
theorem go_if_eq {lay : List fm_L} {d : Nat} {M : fm_Me} {Post : Option Value → fm_M → Prop} {pc : Nat} {ls : List (Option Value)} {st : List Value} {mem : fm_M} {x : Int32} {off : Int} {tgt : Nat} (hd : decode M.2.1 pc = .ok (.ifCond .eq off, 3)) (ht : (pc : Int) + off = (tgt : Int)) (kt : x = 0 → fm_Go lay d M Post tgt ls st mem) (kf : ¬ x = 0 → fm_Go lay d M Post (pc + 3) ls st mem) : fm_Go lay d M Post pc ls (.int x :: st) mem := by
  intro p l e R s0 s m args below meth c D cI cC ad A cells slots H locs sl Q C hl hP hD hS hR
  exact lv_if_eq C.1 C.2.1 hd ht (fun z => kt z p l e R s0 s m args below meth c D cI cC ad A cells slots H locs sl Q C hl hP hD hS hR) (fun z => kf z p l e R s0 s m args below meth c D cI cC ad A cells slots H locs sl Q C hl hP hD hS hR)
theorem go_if_ne {lay : List fm_L} {d : Nat} {M : fm_Me} {Post : Option Value → fm_M → Prop} {pc : Nat} {ls : List (Option Value)} {st : List Value} {mem : fm_M} {x : Int32} {off : Int} {tgt : Nat} (hd : decode M.2.1 pc = .ok (.ifCond .ne off, 3)) (ht : (pc : Int) + off = (tgt : Int)) (kt : ¬ x = 0 → fm_Go lay d M Post tgt ls st mem) (kf : x = 0 → fm_Go lay d M Post (pc + 3) ls st mem) : fm_Go lay d M Post pc ls (.int x :: st) mem := by
  intro p l e R s0 s m args below meth c D cI cC ad A cells slots H locs sl Q C hl hP hD hS hR
  exact lv_if_ne C.1 C.2.1 hd ht (fun z => kt z p l e R s0 s m args below meth c D cI cC ad A cells slots H locs sl Q C hl hP hD hS hR) (fun z => kf z p l e R s0 s m args below meth c D cI cC ad A cells slots H locs sl Q C hl hP hD hS hR)
theorem go_if_lt {lay : List fm_L} {d : Nat} {M : fm_Me} {Post : Option Value → fm_M → Prop} {pc : Nat} {ls : List (Option Value)} {st : List Value} {mem : fm_M} {x : Int32} {off : Int} {tgt : Nat} (hd : decode M.2.1 pc = .ok (.ifCond .lt off, 3)) (ht : (pc : Int) + off = (tgt : Int)) (kt : x < 0 → fm_Go lay d M Post tgt ls st mem) (kf : ¬ x < 0 → fm_Go lay d M Post (pc + 3) ls st mem) : fm_Go lay d M Post pc ls (.int x :: st) mem := by
  intro p l e R s0 s m args below meth c D cI cC ad A cells slots H locs sl Q C hl hP hD hS hR
  exact lv_if_lt C.1 C.2.1 hd ht (fun z => kt z p l e R s0 s m args below meth c D cI cC ad A cells slots H locs sl Q C hl hP hD hS hR) (fun z => kf z p l e R s0 s m args below meth c D cI cC ad A cells slots H locs sl Q C hl hP hD hS hR)
theorem go_if_ge {lay : List fm_L} {d : Nat} {M : fm_Me} {Post : Option Value → fm_M → Prop} {pc : Nat} {ls : List (Option Value)} {st : List Value} {mem : fm_M} {x : Int32} {off : Int} {tgt : Nat} (hd : decode M.2.1 pc = .ok (.ifCond .ge off, 3)) (ht : (pc : Int) + off = (tgt : Int)) (kt : 0 ≤ x → fm_Go lay d M Post tgt ls st mem) (kf : ¬ 0 ≤ x → fm_Go lay d M Post (pc + 3) ls st mem) : fm_Go lay d M Post pc ls (.int x :: st) mem := by
  intro p l e R s0 s m args below meth c D cI cC ad A cells slots H locs sl Q C hl hP hD hS hR
  exact lv_if_ge C.1 C.2.1 hd ht (fun z => kt z p l e R s0 s m args below meth c D cI cC ad A cells slots H locs sl Q C hl hP hD hS hR) (fun z => kf z p l e R s0 s m args below meth c D cI cC ad A cells slots H locs sl Q C hl hP hD hS hR)
theorem go_if_gt {lay : List fm_L} {d : Nat} {M : fm_Me} {Post : Option Value → fm_M → Prop} {pc : Nat} {ls : List (Option Value)} {st : List Value} {mem : fm_M} {x : Int32} {off : Int} {tgt : Nat} (hd : decode M.2.1 pc = .ok (.ifCond .gt off, 3)) (ht : (pc : Int) + off = (tgt : Int)) (kt : 0 < x → fm_Go lay d M Post tgt ls st mem) (kf : ¬ 0 < x → fm_Go lay d M Post (pc + 3) ls st mem) : fm_Go lay d M Post pc ls (.int x :: st) mem := by
  intro p l e R s0 s m args below meth c D cI cC ad A cells slots H locs sl Q C hl hP hD hS hR
  exact lv_if_gt C.1 C.2.1 hd ht (fun z => kt z p l e R s0 s m args below meth c D cI cC ad A cells slots H locs sl Q C hl hP hD hS hR) (fun z => kf z p l e R s0 s m args below meth c D cI cC ad A cells slots H locs sl Q C hl hP hD hS hR)
theorem go_if_le {lay : List fm_L} {d : Nat} {M : fm_Me} {Post : Option Value → fm_M → Prop} {pc : Nat} {ls : List (Option Value)} {st : List Value} {mem : fm_M} {x : Int32} {off : Int} {tgt : Nat} (hd : decode M.2.1 pc = .ok (.ifCond .le off, 3)) (ht : (pc : Int) + off = (tgt : Int)) (kt : x ≤ 0 → fm_Go lay d M Post tgt ls st mem) (kf : ¬ x ≤ 0 → fm_Go lay d M Post (pc + 3) ls st mem) : fm_Go lay d M Post pc ls (.int x :: st) mem := by
  intro p l e R s0 s m args below meth c D cI cC ad A cells slots H locs sl Q C hl hP hD hS hR
  exact lv_if_le C.1 C.2.1 hd ht (fun z => kt z p l e R s0 s m args below meth c D cI cC ad A cells slots H locs sl Q C hl hP hD hS hR) (fun z => kf z p l e R s0 s m args below meth c D cI cC ad A cells slots H locs sl Q C hl hP hD hS hR)
theorem go_icmp_eq {lay : List fm_L} {d : Nat} {M : fm_Me} {Post : Option Value → fm_M → Prop} {pc : Nat} {ls : List (Option Value)} {st : List Value} {mem : fm_M} {x y : Int32} {off : Int} {tgt : Nat} (hd : decode M.2.1 pc = .ok (.if_icmp .eq off, 3)) (ht : (pc : Int) + off = (tgt : Int)) (kt : x = y → fm_Go lay d M Post tgt ls st mem) (kf : ¬ x = y → fm_Go lay d M Post (pc + 3) ls st mem) : fm_Go lay d M Post pc ls (.int y :: .int x :: st) mem := by
  intro p l e R s0 s m args below meth c D cI cC ad A cells slots H locs sl Q C hl hP hD hS hR
  exact lv_icmp_eq C.1 C.2.1 hd ht (fun z => kt z p l e R s0 s m args below meth c D cI cC ad A cells slots H locs sl Q C hl hP hD hS hR) (fun z => kf z p l e R s0 s m args below meth c D cI cC ad A cells slots H locs sl Q C hl hP hD hS hR)
theorem go_icmp_ne {lay : List fm_L} {d : Nat} {M : fm_Me} {Post : Option Value → fm_M → Prop} {pc : Nat} {ls : List (Option Value)} {st : List Value} {mem : fm_M} {x y : Int32} {off : Int} {tgt : Nat} (hd : decode M.2.1 pc = .ok (.if_icmp .ne off, 3)) (ht : (pc : Int) + off = (tgt : Int)) (kt : ¬ x = y → fm_Go lay d M Post tgt ls st mem) (kf : x = y → fm_Go lay d M Post (pc + 3) ls st mem) : fm_Go lay d M Post pc ls (.int y :: .int x :: st) mem := by
  intro p l e R s0 s m args below meth c D cI cC ad A cells slots H locs sl Q C hl hP hD hS hR
  exact lv_icmp_ne C.1 C.2.1 hd ht (fun z => kt z p l e R s0 s m args below meth c D cI cC ad A cells slots H locs sl Q C hl hP hD hS hR) (fun z => kf z p l e R s0 s m args below meth c D cI cC ad A cells slots H locs sl Q C hl hP hD hS hR)
theorem go_icmp_lt {lay : List fm_L} {d : Nat} {M : fm_Me} {Post : Option Value → fm_M → Prop} {pc : Nat} {ls : List (Option Value)} {st : List Value} {mem : fm_M} {x y : Int32} {off : Int} {tgt : Nat} (hd : decode M.2.1 pc = .ok (.if_icmp .lt off, 3)) (ht : (pc : Int) + off = (tgt : Int)) (kt : x < y → fm_Go lay d M Post tgt ls st mem) (kf : ¬ x < y → fm_Go lay d M Post (pc + 3) ls st mem) : fm_Go lay d M Post pc ls (.int y :: .int x :: st) mem := by
  intro p l e R s0 s m args below meth c D cI cC ad A cells slots H locs sl Q C hl hP hD hS hR
  exact lv_icmp_lt C.1 C.2.1 hd ht (fun z => kt z p l e R s0 s m args below meth c D cI cC ad A cells slots H locs sl Q C hl hP hD hS hR) (fun z => kf z p l e R s0 s m args below meth c D cI cC ad A cells slots H locs sl Q C hl hP hD hS hR)
theorem go_icmp_ge {lay : List fm_L} {d : Nat} {M : fm_Me} {Post : Option Value → fm_M → Prop} {pc : Nat} {ls : List (Option Value)} {st : List Value} {mem : fm_M} {x y : Int32} {off : Int} {tgt : Nat} (hd : decode M.2.1 pc = .ok (.if_icmp .ge off, 3)) (ht : (pc : Int) + off = (tgt : Int)) (kt : y ≤ x → fm_Go lay d M Post tgt ls st mem) (kf : ¬ y ≤ x → fm_Go lay d M Post (pc + 3) ls st mem) : fm_Go lay d M Post pc ls (.int y :: .int x :: st) mem := by
  intro p l e R s0 s m args below meth c D cI cC ad A cells slots H locs sl Q C hl hP hD hS hR
  exact lv_icmp_ge C.1 C.2.1 hd ht (fun z => kt z p l e R s0 s m args below meth c D cI cC ad A cells slots H locs sl Q C hl hP hD hS hR) (fun z => kf z p l e R s0 s m args below meth c D cI cC ad A cells slots H locs sl Q C hl hP hD hS hR)
theorem go_icmp_gt {lay : List fm_L} {d : Nat} {M : fm_Me} {Post : Option Value → fm_M → Prop} {pc : Nat} {ls : List (Option Value)} {st : List Value} {mem : fm_M} {x y : Int32} {off : Int} {tgt : Nat} (hd : decode M.2.1 pc = .ok (.if_icmp .gt off, 3)) (ht : (pc : Int) + off = (tgt : Int)) (kt : y < x → fm_Go lay d M Post tgt ls st mem) (kf : ¬ y < x → fm_Go lay d M Post (pc + 3) ls st mem) : fm_Go lay d M Post pc ls (.int y :: .int x :: st) mem := by
  intro p l e R s0 s m args below meth c D cI cC ad A cells slots H locs sl Q C hl hP hD hS hR
  exact lv_icmp_gt C.1 C.2.1 hd ht (fun z => kt z p l e R s0 s m args below meth c D cI cC ad A cells slots H locs sl Q C hl hP hD hS hR) (fun z => kf z p l e R s0 s m args below meth c D cI cC ad A cells slots H locs sl Q C hl hP hD hS hR)
theorem go_icmp_le {lay : List fm_L} {d : Nat} {M : fm_Me} {Post : Option Value → fm_M → Prop} {pc : Nat} {ls : List (Option Value)} {st : List Value} {mem : fm_M} {x y : Int32} {off : Int} {tgt : Nat} (hd : decode M.2.1 pc = .ok (.if_icmp .le off, 3)) (ht : (pc : Int) + off = (tgt : Int)) (kt : x ≤ y → fm_Go lay d M Post tgt ls st mem) (kf : ¬ x ≤ y → fm_Go lay d M Post (pc + 3) ls st mem) : fm_Go lay d M Post pc ls (.int y :: .int x :: st) mem := by
  intro p l e R s0 s m args below meth c D cI cC ad A cells slots H locs sl Q C hl hP hD hS hR
  exact lv_icmp_le C.1 C.2.1 hd ht (fun z => kt z p l e R s0 s m args below meth c D cI cC ad A cells slots H locs sl Q C hl hP hD hS hR) (fun z => kf z p l e R s0 s m args below meth c D cI cC ad A cells slots H locs sl Q C hl hP hD hS hR)
theorem go_goto {lay : List fm_L} {d : Nat} {M : fm_Me} {Post : Option Value → fm_M → Prop} {pc : Nat} {ls : List (Option Value)} {st : List Value} {mem : fm_M} {off : Int} {tgt : Nat} (hd : decode M.2.1 pc = .ok (.goto off, 3)) (ht : (pc : Int) + off = (tgt : Int)) (kk : fm_Go lay d M Post tgt ls st mem) : fm_Go lay d M Post pc ls st mem := by
  intro p l e R s0 s m args below meth c D cI cC ad A cells slots H locs sl Q C hl hP hD hS hR
  exact lv_goto C.1 C.2.1 hd ht (kk p l e R s0 s m args below meth c D cI cC ad A cells slots H locs sl Q C hl hP hD hS hR)
theorem go_lookup {lay : List fm_L} {d : Nat} {M : fm_Me} {Post : Option Value → fm_M → Prop} {pc : Nat} {ls : List (Option Value)} {st : List Value} {mem : fm_M} {dflt : Int} {ps : Array (Int × Int)} {len : Nat} {x : Int32} {off : Int} {tgt : Nat} (hd : decode M.2.1 pc = .ok (.lookupswitch dflt ps, len)) (hp : (ps.toList.zip (ps.toList.drop 1)).all (fun (a, next) => a.1 < next.1) = true) (ho : Op.lookupswitch.offset ps.toList dflt x.toInt = off) (ht : (pc : Int) + off = (tgt : Int)) (kk : fm_Go lay d M Post tgt ls st mem) : fm_Go lay d M Post pc ls (.int x :: st) mem := by
  intro p l e R s0 s m args below meth c D cI cC ad A cells slots H locs sl Q C hl hP hD hS hR
  exact lv_lookup C.1 C.2.1 hd hp ho ht (kk p l e R s0 s m args below meth c D cI cC ad A cells slots H locs sl Q C hl hP hD hS hR)
theorem go_tableOut {lay : List fm_L} {d : Nat} {M : fm_Me} {Post : Option Value → fm_M → Prop} {pc : Nat} {ls : List (Option Value)} {st : List Value} {mem : fm_M} {dflt lo hi : Int} {offs : Array Int} {len : Nat} {x : Int32} {tgt : Nat} (hd : decode M.2.1 pc = .ok (.tableswitch dflt lo hi offs, len)) (h : x.toInt < lo ∨ hi < x.toInt) (ht : (pc : Int) + dflt = (tgt : Int)) (kk : fm_Go lay d M Post tgt ls st mem) : fm_Go lay d M Post pc ls (.int x :: st) mem := by
  intro p l e R s0 s m args below meth c D cI cC ad A cells slots H locs sl Q C hl hP hD hS hR
  exact lv_tableOut C.1 C.2.1 hd h ht (kk p l e R s0 s m args below meth c D cI cC ad A cells slots H locs sl Q C hl hP hD hS hR)
theorem go_tableIn {lay : List fm_L} {d : Nat} {M : fm_Me} {Post : Option Value → fm_M → Prop} {pc : Nat} {ls : List (Option Value)} {st : List Value} {mem : fm_M} {dflt lo hi : Int} {offs : Array Int} {len : Nat} {x : Int32} {off : Int} {tgt : Nat} (hd : decode M.2.1 pc = .ok (.tableswitch dflt lo hi offs, len)) (h1 : ¬ x.toInt < lo) (h2 : ¬ hi < x.toInt) (ho : offs[(x.toInt - lo).toNat]? = some off) (ht : (pc : Int) + off = (tgt : Int)) (kk : fm_Go lay d M Post tgt ls st mem) : fm_Go lay d M Post pc ls (.int x :: st) mem := by
  intro p l e R s0 s m args below meth c D cI cC ad A cells slots H locs sl Q C hl hP hD hS hR
  exact lv_tableIn C.1 C.2.1 hd h1 h2 ho ht (kk p l e R s0 s m args below meth c D cI cC ad A cells slots H locs sl Q C hl hP hD hS hR)
theorem go_fconst0 {lay : List fm_L} {d : Nat} {M : fm_Me} {Post : Option Value → fm_M → Prop} {pc : Nat} {ls : List (Option Value)} {st : List Value} {mem : fm_M} (hd : decode M.2.1 pc = .ok (.fconst 0, 1)) (kk : fm_Go lay d M Post (pc + 1) ls (.float FP.fconst0 :: st) mem) : fm_Go lay d M Post pc ls st mem := by
  intro p l e R s0 s m args below meth c D cI cC ad A cells slots H locs sl Q C hl hP hD hS hR
  exact lv_fconst0 C.1 C.2.1 hd (kk p l e R s0 s m args below meth c D cI cC ad A cells slots H locs sl Q C hl hP hD hS hR)
theorem go_dconst0 {lay : List fm_L} {d : Nat} {M : fm_Me} {Post : Option Value → fm_M → Prop} {pc : Nat} {ls : List (Option Value)} {st : List Value} {mem : fm_M} (hd : decode M.2.1 pc = .ok (.dconst 0, 1)) (kk : fm_Go lay d M Post (pc + 1) ls (.double FP.dconst0 :: st) mem) : fm_Go lay d M Post pc ls st mem := by
  intro p l e R s0 s m args below meth c D cI cC ad A cells slots H locs sl Q C hl hP hD hS hR
  exact lv_dconst0 C.1 C.2.1 hd (kk p l e R s0 s m args below meth c D cI cC ad A cells slots H locs sl Q C hl hP hD hS hR)
theorem go_fdiv {lay : List fm_L} {d : Nat} {M : fm_Me} {Post : Option Value → fm_M → Prop} {pc : Nat} {ls : List (Option Value)} {st : List Value} {mem : fm_M} {x y : UInt32} (hd : decode M.2.1 pc = .ok (.fdiv, 1)) (kk : ∀ r : UInt32, alike32 r (FP.fdiv x y) = true → fm_Go lay d M Post (pc + 1) ls (.float r :: st) mem) : fm_Go lay d M Post pc ls (.float y :: .float x :: st) mem := by
  intro p l e R s0 s m args below meth c D cI cC ad A cells slots H locs sl Q C hl hP hD hS hR
  obtain ⟨a1, a2, a3, a4, a5, a6, a7, a8, a9, a10, a11, d0, rfl, hd0⟩ := C
  exact lv_fdiv_any hd0 lw_bits a1 a2 hd (fun r d1 hal hd1 => kk r hal p l e R s0 (s0.setDrawn d1) m args below meth c D cI cC ad A cells slots H locs sl Q ⟨a1, a2, a3, a4, a5, a6, dr_words (s := s0) (fun w hw => by have := a7 w hw; rw [Cond.before_setDrawn] at this; exact this) d1, ⟨va_K.moved (u := s0.setDrawn d0) (U := s0.setDrawn d1) (Vm.Alike.refl _) a8.1, fm_N_same (u := s0.setDrawn d0) (U := s0.setDrawn d1) rfl a8.2⟩, fm_X_same (u := s0.setDrawn d0) (U := s0.setDrawn d1) a9 rfl rfl, a10, a11, d1, rfl, hd1⟩ hl hP hD hS hR)
theorem go_ddiv {lay : List fm_L} {d : Nat} {M : fm_Me} {Post : Option Value → fm_M → Prop} {pc : Nat} {ls : List (Option Value)} {st : List Value} {mem : fm_M} {x y : UInt64} (hd : decode M.2.1 pc = .ok (.ddiv, 1)) (kk : ∀ r : UInt64, alike64 r (FP.ddiv x y) = true → fm_Go lay d M Post (pc + 1) ls (.double r :: st) mem) : fm_Go lay d M Post pc ls (.double y :: .double x :: st) mem := by
  intro p l e R s0 s m args below meth c D cI cC ad A cells slots H locs sl Q C hl hP hD hS hR
  obtain ⟨a1, a2, a3, a4, a5, a6, a7, a8, a9, a10, a11, d0, rfl, hd0⟩ := C
  exact lv_ddiv_any hd0 lw_bits a1 a2 hd (fun r d1 hal hd1 => kk r hal p l e R s0 (s0.setDrawn d1) m args below meth c D cI cC ad A cells slots H locs sl Q ⟨a1, a2, a3, a4, a5, a6, dr_words (s := s0) (fun w hw => by have := a7 w hw; rw [Cond.before_setDrawn] at this; exact this) d1, ⟨va_K.moved (u := s0.setDrawn d0) (U := s0.setDrawn d1) (Vm.Alike.refl _) a8.1, fm_N_same (u := s0.setDrawn d0) (U := s0.setDrawn d1) rfl a8.2⟩, fm_X_same (u := s0.setDrawn d0) (U := s0.setDrawn d1) a9 rfl rfl, a10, a11, d1, rfl, hd1⟩ hl hP hD hS hR)
/-- a class of the worlds, by its place in vwCl -/
def fm_cls (ci : Nat) (C : String) (T : u_T) (N : Nat) : Prop := vwCl[ci]? = some (C, T, N) ∧ (∀ w ∈ u_ws C T N, w ∈ fm_G) ∧ ∃ ty0 : Nat → FieldType, (∀ k, k < N → parseFieldDescriptor (T k).2.2.1 = some (ty0 k)) ∧ ∀ a, a < N → ∀ b, b < N → a ≠ b → (T a).2.1 ≠ (T b).2.1
theorem go_getI {lay : List fm_L} {d : Nat} {M : fm_Me} {Post : Option Value → fm_M → Prop} {pc : Nat} {ls : List (Option Value)} {st : List Value} {mem : fm_M} {q ci k idx N : Nat} {l2 : List (Option (Option Nat))} {C0 : String} {T : u_T} (hd : decode M.2.1 pc = .ok (.getfield idx, 3)) (hc : fm_cls ci C0 T N) (he : lay[q]? = some (.inr (ci, l2))) (hk : l2[k]? = some (none)) (hkN : k < N) (hlink : Cond.fieldLink M.2.2.2.2 idx (T k).1 (T k).2.1 (T k).2.2.1 ∈ fm_G) (kk : fm_Go lay d M Post (pc + 3) ls (.int (mem q k) :: st) mem) : fm_Go lay d M Post pc ls (.ref q :: st) mem := by
  intro p l e R s0 s m args below meth c D cI cC ad A cells slots H locs sl Q C hl hP hD hS hR
  exact va_get C.1 C.2.1 C.2.2.2.2.2.2.1 hc.2.1 C.2.2.2.2.1 C.2.2.2.2.2.2.2.1.1 hP q (fm_at he) hc.1 k hkN (C.2.2.2.2.2.2.1 _ hlink) (fun _ h => h) (fm_fs_get hk) hd (kk p l e R s0 s m args below meth c D cI cC ad A cells slots H locs sl Q C hl hP hD hS hR)
theorem go_getR {lay : List fm_L} {d : Nat} {M : fm_Me} {Post : Option Value → fm_M → Prop} {pc : Nat} {ls : List (Option Value)} {st : List Value} {mem : fm_M} {q2 : Nat} {q ci k idx N : Nat} {l2 : List (Option (Option Nat))} {C0 : String} {T : u_T} (hd : decode M.2.1 pc = .ok (.getfield idx, 3)) (hc : fm_cls ci C0 T N) (he : lay[q]? = some (.inr (ci, l2))) (hk : l2[k]? = some (some (some q2))) (hkN : k < N) (hlink : Cond.fieldLink M.2.2.2.2 idx (T k).1 (T k).2.1 (T k).2.2.1 ∈ fm_G) (kk : fm_Go lay d M Post (pc + 3) ls (.ref q2 :: st) mem) : fm_Go lay d M Post pc ls (.ref q :: st) mem := by
  intro p l e R s0 s m args below meth c D cI cC ad A cells slots H locs sl Q C hl hP hD hS hR
  exact va_get C.1 C.2.1 C.2.2.2.2.2.2.1 hc.2.1 C.2.2.2.2.1 C.2.2.2.2.2.2.2.1.1 hP q (fm_at he) hc.1 k hkN (C.2.2.2.2.2.2.1 _ hlink) (fun _ h => h) (fm_fs_get hk) hd (kk p l e R s0 s m args below meth c D cI cC ad A cells slots H locs sl Q C hl hP hD hS hR)
theorem go_put {lay : List fm_L} {d : Nat} {M : fm_Me} {Post : Option Value → fm_M → Prop} {pc : Nat} {ls : List (Option Value)} {st : List Value} {mem : fm_M} {q ci k idx N : Nat} {l2 : List (Option (Option Nat))} {C0 : String} {T : u_T} {x : Int32} (ty : FieldType) (hd : decode M.2.1 pc = .ok (.putfield idx, 3)) (hc : fm_cls ci C0 T N) (he : lay[q]? = some (.inr (ci, l2))) (hk : l2[k]? = some none) (hkN : k < N) (hlink : Cond.fieldLink M.2.2.2.2 idx (T k).1 (T k).2.1 (T k).2.2.1 ∈ fm_G) (hfin : (T k).2.2.2 = false) (hpd : parseFieldDescriptor (T k).2.2.1 = some ty) (hnr : narrow ty (.int x) = .int x) (hfit : fits ty (.int x) = true) (kk : fm_Go lay d M Post (pc + 3) ls st (fm_put mem q k x)) : fm_Go lay d M Post pc ls (.int x :: .ref q :: st) mem := by
  intro p l e R s0 s m args below meth c D cI cC ad A cells slots H locs sl Q C hl hP hD hS hR
  obtain ⟨hc1, hc2, ty0, hc3, hc4⟩ := hc
  refine va_put (ref := (T k).1) C.1 C.2.1 C.2.2.2.2.2.2.1 hc2 ty0 hc3 hc4 C.2.2.2.2.1 C.2.2.2.2.2.2.2.1.1 hP hD hS q (fm_at he) hc1 k hkN (C.2.2.2.2.2.2.1 _ hlink) (fun _ h => h) hfin hpd hnr hfit (by unfold fm_fs; rw [List.length_mapIdx]; exact (List.getElem?_eq_some_iff.mp hk).1) hd (fun H1 locs1 hP1 hD1 hS1 => ?_)
  have e1 : (fm_W ad cI cC lay mem).set q (ad q, .inr (ci, (fm_fs ad (mem q) l2).set k (.int x))) = fm_W ad cI cC lay (fm_put mem q k x) := by
    rw [← fm_set he, fm_e_put hk]
  have hP2 : va_P D vwCl (fm_W ad cI cC lay (fm_put mem q k x)) H1 := by rw [← e1]; exact hP1
  exact kk p l e R s0 s m args below meth c D cI cC ad A cells slots H1 locs1 sl Q C hl hP2 (fm_D_mem hD) hS1 hR
theorem go_iald {lay : List fm_L} {d : Nat} {M : fm_Me} {Post : Option Value → fm_M → Prop} {pc : Nat} {ls : List (Option Value)} {st : List Value} {mem : fm_M} {q n : Nat} {i : Int32} (hd : decode M.2.1 pc = .ok (.iaload, 1)) (he : lay[q]? = some (.inl (0, n))) (hin : vp_in i n) (kk : fm_Go lay d M Post (pc + 1) ls (.int (mem q i.toNatClampNeg) :: st) mem) : fm_Go lay d M Post pc ls (.int i :: .ref q :: st) mem := by
  intro p l e R s0 s m args below meth c D cI cC ad A cells slots H locs sl Q C hl hP hD hS hR
  exact va_iald C.1 C.2.1 C.2.2.2.2.2.2.2.1.1 hP q 0 (fm_at he) rfl hin hd (kk p l e R s0 s m args below meth c D cI cC ad A cells slots H locs sl Q C hl hP hD hS hR)
theorem go_cald {lay : List fm_L} {d : Nat} {M : fm_Me} {Post : Option Value → fm_M → Prop} {pc : Nat} {ls : List (Option Value)} {st : List Value} {mem : fm_M} {q n : Nat} {i : Int32} (hd : decode M.2.1 pc = .ok (.caload, 1)) (he : lay[q]? = some (.inl (1, n))) (hin : vp_in i n) (kk : fm_Go lay d M Post (pc + 1) ls (.int (mem q i.toNatClampNeg) :: st) mem) : fm_Go lay d M Post pc ls (.int i :: .ref q :: st) mem := by
  intro p l e R s0 s m args below meth c D cI cC ad A cells slots H locs sl Q C hl hP hD hS hR
  exact va_cald C.1 C.2.1 C.2.2.2.2.2.2.2.1.1 hP q 1 (fm_at he) rfl hin hd (kk p l e R s0 s m args below meth c D cI cC ad A cells slots H locs sl Q C hl hP hD hS hR)
theorem go_iast {lay : List fm_L} {d : Nat} {M : fm_Me} {Post : Option Value → fm_M → Prop} {pc : Nat} {ls : List (Option Value)} {st : List Value} {mem : fm_M} {q n : Nat} {i x : Int32} (hd : decode M.2.1 pc = .ok (.iastore, 1)) (he : lay[q]? = some (.inl (0, n))) (hin : vp_in i n) (kk : fm_Go lay d M Post (pc + 1) ls st (fm_put mem q i.toNatClampNeg x)) : fm_Go lay d M Post pc ls (.int x :: .int i :: .ref q :: st) mem := by
  intro p l e R s0 s m args below meth c D cI cC ad A cells slots H locs sl Q C hl hP hD hS hR
  refine va_iast C.1 C.2.1 C.2.2.2.2.2.2.2.1.1 hP hD hS q 0 (fm_at he) rfl hin hd (fun H1 locs1 hP1 hD1 hS1 => ?_)
  have e1 : (fm_W ad cI cC lay mem).set q (ad q, .inl (if 0 = 0 then cI else cC, n, .inl (upd (mem q) i.toNatClampNeg x))) = fm_W ad cI cC lay (fm_put mem q i.toNatClampNeg x) := by
    rw [← fm_set he, fm_e_arr]
  have hP2 : va_P D vwCl (fm_W ad cI cC lay (fm_put mem q i.toNatClampNeg x)) H1 := by rw [← e1]; exact hP1
  exact kk p l e R s0 s m args below meth c D cI cC ad A cells slots H1 locs1 sl Q C hl hP2 (fm_D_mem hD) hS1 hR
theorem go_cast {lay : List fm_L} {d : Nat} {M : fm_Me} {Post : Option Value → fm_M → Prop} {pc : Nat} {ls : List (Option Value)} {st : List Value} {mem : fm_M} {q n : Nat} {i x : Int32} (hd : decode M.2.1 pc = .ok (.castore, 1)) (he : lay[q]? = some (.inl (1, n))) (hin : vp_in i n) (kk : fm_Go lay d M Post (pc + 1) ls st (fm_put mem q i.toNatClampNeg (vp_nar .char x))) : fm_Go lay d M Post pc ls (.int x :: .int i :: .ref q :: st) mem := by
  intro p l e R s0 s m args below meth c D cI cC ad A cells slots H locs sl Q C hl hP hD hS hR
  refine va_cast C.1 C.2.1 C.2.2.2.2.2.2.2.1.1 hP hD hS q 1 (fm_at he) rfl hin hd (fun H1 locs1 hP1 hD1 hS1 => ?_)
  have e1 : (fm_W ad cI cC lay mem).set q (ad q, .inl (if 1 = 0 then cI else cC, n, .inl (upd (mem q) i.toNatClampNeg (vp_nar .char x)))) = fm_W ad cI cC lay (fm_put mem q i.toNatClampNeg (vp_nar .char x)) := by
    rw [← fm_set he, fm_e_arr]
  have hP2 : va_P D vwCl (fm_W ad cI cC lay (fm_put mem q i.toNatClampNeg (vp_nar .char x))) H1 := by rw [← e1]; exact hP1
  exact kk p l e R s0 s m args below meth c D cI cC ad A cells slots H1 locs1 sl Q C hl hP2 (fm_D_mem hD) hS1 hR
theorem go_alen {lay : List fm_L} {d : Nat} {M : fm_Me} {Post : Option Value → fm_M → Prop} {pc : Nat} {ls : List (Option Value)} {st : List Value} {mem : fm_M} {q t n : Nat} {v : Int32} (hd : decode M.2.1 pc = .ok (.arraylength, 1)) (he : lay[q]? = some (.inl (t, n))) (hv : Int32.ofNat n = v) (kk : fm_Go lay d M Post (pc + 1) ls (.int v :: st) mem) : fm_Go lay d M Post pc ls (.ref q :: st) mem := by
  intro p l e R s0 s m args below meth c D cI cC ad A cells slots H locs sl Q C hl hP hD hS hR
  by_cases ht : t = 0
  · exact va_alen C.1 C.2.1 C.2.2.2.2.2.2.2.1.1 hP q 0 (fm_at he) (by rw [if_pos ht]; rfl) hv hd (kk p l e R s0 s m args below meth c D cI cC ad A cells slots H locs sl Q C hl hP hD hS hR)
  · exact va_alen C.1 C.2.1 C.2.2.2.2.2.2.2.1.1 hP q 1 (fm_at he) (by rw [if_neg ht]; rfl) hv hd (kk p l e R s0 s m args below meth c D cI cC ad A cells slots H locs sl Q C hl hP hD hS hR)
theorem go_min {lay : List fm_L} {d : Nat} {M : fm_Me} {Post : Option Value → fm_M → Prop} {pc : Nat} {ls : List (Option Value)} {st : List Value} {mem : fm_M} {idx : Nat} {x y : Int32} (hd : decode M.2.1 pc = .ok (.invokestatic idx, 3)) (hlink : Cond.methodLink M.2.2.2.2 idx Lib.Math.min.name ∈ fm_G) (hd1 : 1 ≤ d) (hst : (st.map fun v => v.category).sum ≤ 8) (kk : fm_Go lay d M Post (pc + 3) ls (.int (if y < x then y else x) :: st) mem) : fm_Go lay d M Post pc ls (.int y :: .int x :: st) mem := by
  intro p l e R s0 s m args below meth c D cI cC ad A cells slots H locs sl Q C hl hP hD hS hR
  have hst2 : ((st.map (fm_cv ad)).map fun v => v.category).sum ≤ 8 := by rw [List.map_map, show ((fun v : Value => v.category) ∘ fm_cv ad) = (fun v => v.category) from funext (fun v => fm_cv_cat ad v)]; exact hst
  have hr := C.2.2.2.2.2.2.2.2.2.1
  exact va_mmin C.1 C.2.1 (C.2.2.1.trans hl.1.symm) C.2.2.2.2.1 (C.2.2.2.2.2.2.1 _ hlink) (C.2.2.2.2.2.2.1 _ fm_minS) (C.2.2.2.2.2.2.1 _ fm_minI) (C.2.2.2.2.2.2.1 _ fm_minC) (by omega) (by omega) hr.2.2.1 hr.2.2.2 hd (kk p l e R s0 s m args below meth c D cI cC ad A cells slots H locs sl Q C hl hP hD hS hR)
theorem go_max {lay : List fm_L} {d : Nat} {M : fm_Me} {Post : Option Value → fm_M → Prop} {pc : Nat} {ls : List (Option Value)} {st : List Value} {mem : fm_M} {idx : Nat} {x y : Int32} (hd : decode M.2.1 pc = .ok (.invokestatic idx, 3)) (hlink : Cond.methodLink M.2.2.2.2 idx Lib.Math.max.name ∈ fm_G) (hd1 : 1 ≤ d) (hst : (st.map fun v => v.category).sum ≤ 8) (kk : fm_Go lay d M Post (pc + 3) ls (.int (if x < y then y else x) :: st) mem) : fm_Go lay d M Post pc ls (.int y :: .int x :: st) mem := by
  intro p l e R s0 s m args below meth c D cI cC ad A cells slots H locs sl Q C hl hP hD hS hR
  have hst2 : ((st.map (fm_cv ad)).map fun v => v.category).sum ≤ 8 := by rw [List.map_map, show ((fun v : Value => v.category) ∘ fm_cv ad) = (fun v => v.category) from funext (fun v => fm_cv_cat ad v)]; exact hst
  have hr := C.2.2.2.2.2.2.2.2.2.1
  exact va_mmax C.1 C.2.1 (C.2.2.1.trans hl.1.symm) C.2.2.2.2.1 (C.2.2.2.2.2.2.1 _ hlink) (C.2.2.2.2.2.2.1 _ fm_maxS) (C.2.2.2.2.2.2.1 _ fm_minI) (C.2.2.2.2.2.2.1 _ fm_maxC) (by omega) (by omega) hr.2.2.1 hr.2.2.2 hd (kk p l e R s0 s m args below meth c D cI cC ad A cells slots H locs sl Q C hl hP hD hS hR)
theorem go_copy {lay : List fm_L} {d : Nat} {M : fm_Me} {Post : Option Value → fm_M → Prop} {pc : Nat} {ls : List (Option Value)} {st : List Value} {mem : fm_M} {idx q0 q1 n0 n1 : Nat} {sp dp n : Int32} (hd : decode M.2.1 pc = .ok (.invokestatic idx, 3)) (hlink : Cond.methodLink M.2.2.2.2 idx arraycopyName ∈ fm_G) (hd1 : 2 ≤ d) (hst : (st.map fun v => v.category).sum ≤ 8) (he0 : lay[q0]? = some (.inl (0, n0))) (he1 : lay[q1]? = some (.inl (0, n1))) (h1 : ¬ sp < 0) (h2 : ¬ dp < 0) (h3 : ¬ n < 0) (h4 : sp.toNatClampNeg + n.toNatClampNeg ≤ n0) (h5 : dp.toNatClampNeg + n.toNatClampNeg ≤ n1) (kk : fm_Go lay d M Post (pc + 3) ls st (fm_up mem q1 (va_cpy (mem q0) (mem q1) sp.toNatClampNeg dp.toNatClampNeg n.toNatClampNeg))) : fm_Go lay d M Post pc ls (.int n :: .int dp :: .ref q1 :: .int sp :: .ref q0 :: st) mem := by
  intro p l e R s0 s m args below meth c D cI cC ad A cells slots H locs sl Q C hl hP hD hS hR
  have hst2 : ((st.map (fm_cv ad)).map fun v => v.category).sum ≤ 8 := by rw [List.map_map, show ((fun v : Value => v.category) ∘ fm_cv ad) = (fun v => v.category) from funext (fun v => fm_cv_cat ad v)]; exact hst
  have hr := C.2.2.2.2.2.2.2.2.2.1
  have hw : nativeFrameWords "java/lang/System" "arraycopy" 5 ≤ 30 := by decide
  refine va_copyi (ty := .int) C.1 C.2.1 (C.2.2.1.trans hl.1.symm) C.2.2.2.2.1 (C.2.2.2.2.2.2.1 _ hlink) (C.2.2.2.2.2.2.1 _ fm_cpyN) (C.2.2.2.2.2.2.1 _ fm_cpyS) (C.2.2.2.2.2.2.1 _ fm_cpyI) C.2.2.2.2.2.2.2.1.1 hP hD hS q0 q1 0 0 (fm_at he0) (fm_at he1) rfl rfl rfl h1 h2 h3 h4 h5 (fun i _ => rfl) (by omega) (by omega) hd (fun H1 locs1 hP1 hD1 hS1 => ?_)
  have e1 : (fm_W ad cI cC lay mem).set q1 (ad q1, .inl (if 0 = 0 then cI else cC, n1, .inl (va_cpy (mem q0) (mem q1) sp.toNatClampNeg dp.toNatClampNeg n.toNatClampNeg))) = fm_W ad cI cC lay (fm_up mem q1 (va_cpy (mem q0) (mem q1) sp.toNatClampNeg dp.toNatClampNeg n.toNatClampNeg)) := by
    rw [← fm_set he1, fm_e_arr]
  have hP2 : va_P D vwCl (fm_W ad cI cC lay (fm_up mem q1 (va_cpy (mem q0) (mem q1) sp.toNatClampNeg dp.toNatClampNeg n.toNatClampNeg))) H1 := by rw [← e1]; exact hP1
  exact kk p l e R s0 s m args below meth c D cI cC ad A cells slots H1 locs1 sl Q C hl hP2 (fm_D_mem hD) hS1 hR
theorem go_ret {lay : List fm_L} {d : Nat} {M : fm_Me} {Post : Option Value → fm_M → Prop} {pc : Nat} {ls : List (Option Value)} {st : List Value} {mem : fm_M} {v : Option Value} (hr : fm_isR M pc v) (hp : Post v mem) (hst : st = v.toList) : fm_Go lay d M Post pc ls st mem := by
  intro p l e R s0 s m args below meth c D cI cC ad A cells slots H locs sl Q C hl hP hD hS hR
  subst hst
  have e1 : (v.toList.map (fm_cv ad)) = (v.map (fm_cv ad)).toList := by cases v <;> rfl
  rw [e1]
  exact hR s H locs sl pc v mem C.2.2.2.2.2.2.2.2.2.2.2 hp hP hS hr
theorem go_iret {lay : List fm_L} {d : Nat} {M : fm_Me} {Post : Option Value → fm_M → Prop} {pc : Nat} {ls : List (Option Value)} {mem : fm_M} {x : Int32} (ty : FieldType) (hd : decode M.2.1 pc = .ok (.ireturn, 1)) (ht : M.2.2.2.1 = some ty) (hn : narrow ty (.int x) = .int x) (hp : Post (some (.int x)) mem) : fm_Go lay d M Post pc ls [.int x] mem := go_ret (v := some (.int x)) ⟨hd, ty, ht, hn⟩ hp rfl
theorem go_vret {lay : List fm_L} {d : Nat} {M : fm_Me} {Post : Option Value → fm_M → Prop} {pc : Nat} {ls : List (Option Value)} {mem : fm_M} (hd : decode M.2.1 pc = .ok (.return_, 1)) (ht : M.2.2.2.1 = none) (hp : Post none mem) : fm_Go lay d M Post pc ls [] mem := go_ret (v := none) ⟨hd, ht⟩ hp rfl
theorem go_aret {lay : List fm_L} {d : Nat} {M : fm_Me} {Post : Option Value → fm_M → Prop} {pc : Nat} {ls : List (Option Value)} {mem : fm_M} {q : Nat} (n : String) (hd : decode M.2.1 pc = .ok (.areturn, 1)) (ht : M.2.2.2.1 = some (.object n)) (hp : Post (some (.ref q)) mem) : fm_Go lay d M Post pc ls [.ref q] mem := go_ret (v := some (.ref q)) ⟨hd, n, ht⟩ hp rfl
theorem go_dret {lay : List fm_L} {d : Nat} {M : fm_Me} {Post : Option Value → fm_M → Prop} {pc : Nat} {ls : List (Option Value)} {mem : fm_M} {x : UInt64} (hd : decode M.2.1 pc = .ok (.dreturn, 1)) (ht : M.2.2.2.1 = some .double) (hp : Post (some (.double x)) mem) : fm_Go lay d M Post pc ls [.double x] mem := go_ret (v := some (.double x)) ⟨hd, ht⟩ hp rfl
theorem go_fret {lay : List fm_L} {d : Nat} {M : fm_Me} {Post : Option Value → fm_M → Prop} {pc : Nat} {ls : List (Option Value)} {mem : fm_M} {x : UInt32} (hd : decode M.2.1 pc = .ok (.freturn, 1)) (ht : M.2.2.2.1 = some .float) (hp : Post (some (.float x)) mem) : fm_Go lay d M Post pc ls [.float x] mem := go_ret (v := some (.float x)) ⟨hd, ht⟩ hp rfl
theorem fm_back {lay : List fm_L} {PostC : Option Value → fm_M → Prop} {p : Program} {l : Launch} {e : Env} {R : Room} {s0 s : State} {m : MethodId} {args : Array Value} {below : List Frame} {meth : Method} {c : Code} {D : va_G} {cI cC : ClassId} {ad : Nat → Nat} {A A1 : Nat → Prop} {cells slots : Nat} {H : Heap} {locs : List Loc} {sl : Array Slot} {Q : State → Prop} {pc : Nat} {st0 rest : List Value} {a : Array Value}
    (hr : va_RunD lw_cs p l e R s m args below meth c H locs cells slots 0 0 (F0 m pc sl st0) rest (fm_Q D cI cC ad lay PostC A1 a) A1) (hs : fm_dr s0 s) (hS : va_S A s.heap H locs) (hA : ∀ q, A1 q → A q)
    (kk : ∀ (v : Option Value) (mem' : fm_M) (H1 : Heap) (locs1 : List Loc) (s1 : State), fm_dr s0 s1 → s1.vm = s.vm → s1.heap = s.heap → (∀ (w : Cond), w.before args s = true → w.before args s1 = true) → PostC v mem' → va_P D vwCl (fm_W ad cI cC lay mem') H1 → va_S A s1.heap H1 locs1 → W p l e R s1 m args below meth c H1 locs1 cells slots Q (F0 m (pc + 3) sl ((v.map (fm_cv ad)).toList ++ rest))) :
    W p l e R s m args below meth c H locs cells slots Q (F0 m pc sl st0) := by
  intro T hT X
  obtain ⟨v, st₀, t, T', L, d', hd', h0, X', hL, e1, e2, ⟨⟨v', mem', hv, hp, hb⟩, hz, hk⟩, st⟩ := hr T hT X
  cases hv
  rw [h0] at hz hk
  obtain ⟨d0, rfl, hd0⟩ := hs
  obtain ⟨t2, a1, b1⟩ := kk v' mem' T'.heap (locs ++ L) ((s0.setDrawn d0).setDrawn d') ⟨d', rfl, hd0.trans hd'⟩ rfl rfl (fun w hw => (Cond.before_setDrawn _ _ _ _).trans hw) hp (by rw [e1]; exact hb)
    ⟨Nat.le_trans hS.1 (by rw [e1]; exact hz), fun q h1 h2 => by rw [e1, hk q (Nat.lt_of_lt_of_le h1 hS.1) (fun z => h2 (hA q z))]; exact hS.2.1 q h1 h2, fun q hq => by
      rcases List.mem_append.mp hq with h | h
      · exact hS.2.2 q h
      · exact hA _ (hL q h)⟩ T' rfl X'
  exact ⟨t2, st t2 a1, b1⟩
/-- what a callee is: its words, and how many arguments it takes -/
def fm_callee (M : fm_Me) (n : Nat) : Prop := .code M.1 M.2.1 M.2.2.1 M.2.2.2.1 ∈ fm_G ∧ .initialized M.1.cls ∈ fm_G ∧ (M.1.cls ≠ "java/lang/invoke/MethodHandle" ∧ M.1.cls ≠ "java/lang/invoke/VarHandle") ∧ (∀ sig, parseMethodDescriptor M.1.desc = some sig → n = sig.parameters.length) ∧ M.2.2.1 ≤ 8
theorem fm_callee_of {M : fm_Me} (n : Nat) (h1 : .code M.1 M.2.1 M.2.2.1 M.2.2.2.1 ∈ fm_G) (h2 : .initialized M.1.cls ∈ fm_G) (h3 : M.1.cls ≠ "java/lang/invoke/MethodHandle" ∧ M.1.cls ≠ "java/lang/invoke/VarHandle") (h4 : (parseMethodDescriptor M.1.desc).map (fun d => d.parameters.length) = some n) (h5 : M.2.2.1 ≤ 8) : fm_callee M n := ⟨h1, h2, h3, fun sig h => by rw [h] at h4; exact (Option.some.inj h4).symm, h5⟩
theorem fm_words {M : fm_Me} {n : Nat} {args : Array Value} {s : State} (h : fm_callee M n) (hts : ∀ w ∈ fm_G, w.before args s = true) : ∀ w ∈ fm_ws M, ∀ (a' : Array Value) (U : State), s.WarmedH U.vm → w.before a' U = true := by
  refine pay_in hts (fun w hw => ?_)
  rcases List.mem_cons.mp hw with rfl | hw
  · exact ⟨h.1, fm_good h.1⟩
  · exact ⟨hw, fm_good hw⟩
theorem fm_callB {M : fm_Me} {n d' d idx : Nat} {own : String} {args : Array Value} {s : State} {R : Room} (h : fm_callee M n) (hts : ∀ w ∈ fm_G, w.before args s = true) (hdd : d' + 1 ≤ d) (hR : d ≤ R.frames ∧ 27 * d ≤ R.locals) (hl : .methodLink own idx M.1 ∈ fm_G) : CallB R s args own idx M.1 M.2.1 M.2.2.1 M.2.2.2.1 (fm_ws M) (fm_rm d') 0 0 n :=
  ⟨rfl, rfl, by show d' + 1 ≤ _; omega, by have := h.2.2.2.2; show 8 + (M.2.2.1 + 11) + 27 * d' ≤ _; omega, fm_words h hts, List.mem_cons_self, hts _ h.1, hts _ h.2.1, h.2.2.1, h.2.2.2.1, hts _ hl⟩
theorem fm_blind {D : va_G} {cI cC : ClassId} {ad : Nat → Nat} {lay : List fm_L} {mem : fm_M} {A : Nat → Prop} {sz : Nat} {as : List Value} : FrameBlind (va_Pc as (fun U => U.heap.size = sz ∧ fm_At D cI cC ad lay mem A U)) := by
  intro a U g mk h
  obtain ⟨h1, h2, ⟨h3, h4⟩, h5, h6, h7⟩ := h
  exact ⟨h1, h2, ⟨va_K.moved (u := U) (U := U.calling g mk a) (Vm.Alike.refl U.vm) h3, fm_N_same (u := U) (U := U.calling g mk a) rfl h4⟩, fm_X_same h5 rfl rfl, h6, h7⟩
theorem fm_pre {D : va_G} {cI cC : ClassId} {ad : Nat → Nat} {lay : List fm_L} {mem : fm_M} {A : Nat → Prop} {s U : State} {H : Heap} {locs : List Loc} {as : List Value} (hK : fm_K D cI cC s) (hX : fm_X ad A s) (hP : va_P D vwCl (fm_W ad cI cC lay mem) H) (hD : va_D A (fm_W ad cI cC lay mem)) (hS : va_S A s.heap H locs) (hA : ∀ q, s.heap.size ≤ q → A q) (hU : U.heap = H) (hW : s.WarmedH U.vm) : va_Pc as (fun U => U.heap.size = H.size ∧ fm_At D cI cC ad lay mem (fm_A ad lay.length H.size) U) as.toArray U := by
  refine ⟨rfl, by rw [hU], ⟨va_K.moved hW.alike hK.1, fm_N_warm hW hK.2⟩, ?_, by rw [hU]; exact hP, ?_⟩
  · refine fm_X_call hX hU hW hS (fun q hq => ?_)
    rcases hq with ⟨k, hk, rfl⟩ | hq
    · exact (fm_D.mp hD).2 k hk
    · exact hA q (Nat.le_trans hS.1 hq)
  · exact fm_D.mpr ⟨(fm_D.mp hD).1, fun i hi => Or.inl ⟨i, hi, rfl⟩⟩
theorem fm_Afree {ad : Nat → Nat} {cI cC : ClassId} {lay : List fm_L} {mem : fm_M} {A : Nat → Prop} {s : State} {H : Heap} {locs : List Loc} (hD : va_D A (fm_W ad cI cC lay mem)) (hS : va_S A s.heap H locs) (hA : ∀ q, s.heap.size ≤ q → A q) : ∀ q, fm_A ad lay.length H.size q → A q := by
  intro q hq
  rcases hq with ⟨k, hk, rfl⟩ | hq
  · exact (fm_D.mp hD).2 k hk
  · exact hA q (Nat.le_trans hS.1 hq)
theorem fm_st8 (ad : Nat → Nat) {st : List Value} (h : (st.map fun v => v.category).sum ≤ 8) : ((st.map (fm_cv ad)).map fun v => v.category).sum ≤ 8 := by
  rw [List.map_map, show ((fun v : Value => v.category) ∘ fm_cv ad) = (fun v => v.category) from funext (fun v => fm_cv_cat ad v)]
  exact h
theorem go_callV {lay : List fm_L} {d : Nat} {M : fm_Me} {Post : Option Value → fm_M → Prop} {pc : Nat} {ls : List (Option Value)} {st : List Value} {mem : fm_M} {M2 : fm_Me} {d2 n idx : Nat} {As st0 : List Value} {mem1 : fm_M} {PostC : Option Value → fm_M → Prop} {q ci N : Nat} {fl : List (Option (Option Nat))} {C0 : String} {T : u_T} (hd : decode M.2.1 pc = .ok (.invokevirtual idx, 3)) (hcal : fm_Met lay d2 M2 (.ref q :: As) mem PostC) (hdd : d2 + 1 ≤ d) (hce : fm_callee M2 n) (hlk : Cond.methodLink M.2.2.2.2 idx M2.1 ∈ fm_G) (hin : Cond.instanceMethod M2.1 ∈ fm_G) (hsel : Cond.selects C0 M2.1 M2.1 ∈ fm_G) (hc : fm_cls ci C0 T N) (he : lay[q]? = some (.inr (ci, fl))) (hn : As.length = n) (hst : (st.map fun v => v.category).sum ≤ 8) (hs0 : st0 = As.reverse ++ .ref q :: st) (kk : ∀ v mem2, PostC v mem2 → fm_Go lay d M Post (pc + 3) ls (v.toList ++ st) mem2) : fm_Go lay d M Post pc ls st0 mem := by
  intro p l e R s0 s m args below meth c D cI cC ad A cells slots H locs sl Q C hl hP hD hS hR
  subst hs0
  have hr := C.2.2.2.2.2.2.2.2.2.1
  have hts := C.2.2.2.2.2.2.1
  have hrun := va_runV_D (cs := lw_cs) (e := e) (R := R) (p := p) (l := l) (args := args) (c := c) (H := H) (locs := locs) (cells := cells) (slots := slots) (below := below) (meth := meth) (rest := st.map (fm_cv ad)) (As := As.map (fm_cv ad)) (g := F0 m pc sl ((As.reverse ++ .ref q :: st).map (fm_cv ad))) (b := ad q) (C := C0) ⟨C.1, C.2.1, C.2.2.1, C.2.2.2.2.1, hts⟩ (hcal l D cI cC ad H.size) ⟨fm_callB hce hts hdd ⟨hr.1, hr.2.1⟩ hlk, hts _ hin, hts _ hsel⟩
    ⟨fm_blind, va_recv C.2.2.2.2.2.2.2.1.1 hP hc.1 (fm_at he), fun U hU hW => fm_pre C.2.2.2.2.2.2.2.1 C.2.2.2.2.2.2.2.2.1 hP hD hS C.2.2.2.2.2.2.2.2.2.2.1 hU hW⟩ rfl (by rw [List.length_map]; exact hn) hl.1 (by show List.map _ _ = _; rw [List.map_append, List.map_reverse]; rfl) (by show 2 * 0 + _ ≤ 8; have := fm_st8 ad hst; omega) hd ⟨hr.2.2.1, hr.2.2.2⟩
  refine fm_back hrun C.2.2.2.2.2.2.2.2.2.2.2 hS (fm_Afree hD hS C.2.2.2.2.2.2.2.2.2.2.1) (fun v mem' H1 locs1 s1 hs1 hvm hhp hw hpost hP1 hS1 => ?_)
  obtain ⟨a1, a2, a3, a4, a5, a6, a7, a8, a9, a10, a11, a12⟩ := C
  have hsame : s.vm.Alike s1.vm := by rw [hvm]; exact Vm.Alike.refl _
  have C1 : fm_C d M p R s0 s1 m args meth c D cI cC ad A cells slots := ⟨a1, a2, a3, a4, by rw [hvm]; exact a5, a6, fun w hw1 => hw w (a7 w hw1), ⟨va_K.moved hsame a8.1, fm_N_same hvm.symm a8.2⟩, fm_X_same a9 hvm.symm hhp.symm, a10, by rw [hhp]; exact a11, hs1⟩
  have key := kk v mem' hpost p l e R s0 s1 m args below meth c D cI cC ad A cells slots H1 locs1 sl Q C1 hl hP1 (fm_D_mem hD) hS1 hR
  have e1 : ((v.toList ++ st).map (fm_cv ad)) = (v.map (fm_cv ad)).toList ++ st.map (fm_cv ad) := by cases v <;> rfl
  rw [e1] at key
  exact key
theorem go_callS {lay : List fm_L} {d : Nat} {M : fm_Me} {Post : Option Value → fm_M → Prop} {pc : Nat} {ls : List (Option Value)} {st : List Value} {mem : fm_M} {M2 : fm_Me} {d2 n idx : Nat} {As st0 : List Value} {mem1 : fm_M} {PostC : Option Value → fm_M → Prop} (hd : decode M.2.1 pc = .ok (.invokestatic idx, 3)) (hcal : fm_Met lay d2 M2 As mem PostC) (hdd : d2 + 1 ≤ d) (hce : fm_callee M2 n) (hlk : Cond.methodLink M.2.2.2.2 idx M2.1 ∈ fm_G) (hsta : Cond.static M2.1 ∈ fm_G) (hn : As.length = n) (hst : (st.map fun v => v.category).sum ≤ 8) (hs0 : st0 = As.reverse ++ st) (kk : ∀ v mem2, PostC v mem2 → fm_Go lay d M Post (pc + 3) ls (v.toList ++ st) mem2) : fm_Go lay d M Post pc ls st0 mem := by
  intro p l e R s0 s m args below meth c D cI cC ad A cells slots H locs sl Q C hl hP hD hS hR
  subst hs0
  have hr := C.2.2.2.2.2.2.2.2.2.1
  have hts := C.2.2.2.2.2.2.1
  have hrun := va_runS_D (cs := lw_cs) (e := e) (R := R) (p := p) (l := l) (args := args) (c := c) (H := H) (locs := locs) (cells := cells) (slots := slots) (below := below) (meth := meth) (rest := st.map (fm_cv ad)) (As := As.map (fm_cv ad)) (g := F0 m pc sl ((As.reverse ++ st).map (fm_cv ad))) ⟨C.1, C.2.1, C.2.2.1, C.2.2.2.2.1, hts⟩ (hcal l D cI cC ad H.size) ⟨fm_callB hce hts hdd ⟨hr.1, hr.2.1⟩ hlk, hts _ hsta⟩
    ⟨fm_blind, fun U hU hW => fm_pre C.2.2.2.2.2.2.2.1 C.2.2.2.2.2.2.2.2.1 hP hD hS C.2.2.2.2.2.2.2.2.2.2.1 hU hW⟩ rfl (by rw [List.length_map]; exact hn) hl.1 (by show List.map _ _ = _; rw [List.map_append, List.map_reverse]) (by show 2 * 0 + _ ≤ 8; have := fm_st8 ad hst; omega) hd ⟨hr.2.2.1, hr.2.2.2⟩
  refine fm_back hrun C.2.2.2.2.2.2.2.2.2.2.2 hS (fm_Afree hD hS C.2.2.2.2.2.2.2.2.2.2.1) (fun v mem' H1 locs1 s1 hs1 hvm hhp hw hpost hP1 hS1 => ?_)
  obtain ⟨a1, a2, a3, a4, a5, a6, a7, a8, a9, a10, a11, a12⟩ := C
  have hsame : s.vm.Alike s1.vm := by rw [hvm]; exact Vm.Alike.refl _
  have C1 : fm_C d M p R s0 s1 m args meth c D cI cC ad A cells slots := ⟨a1, a2, a3, a4, by rw [hvm]; exact a5, a6, fun w hw1 => hw w (a7 w hw1), ⟨va_K.moved hsame a8.1, fm_N_same hvm.symm a8.2⟩, fm_X_same a9 hvm.symm hhp.symm, a10, by rw [hhp]; exact a11, hs1⟩
  have key := kk v mem' hpost p l e R s0 s1 m args below meth c D cI cC ad A cells slots H1 locs1 sl Q C1 hl hP1 (fm_D_mem hD) hS1 hR
  have e1 : ((v.toList ++ st).map (fm_cv ad)) = (v.map (fm_cv ad)).toList ++ st.map (fm_cv ad) := by cases v <;> rfl
  rw [e1] at key
  exact key
theorem go_callSN {lay : List fm_L} {d : Nat} {M : fm_Me} {Post : Option Value → fm_M → Prop} {pc : Nat} {ls : List (Option Value)} {st : List Value} {mem : fm_M} {M2 : fm_Me} {d2 n idx : Nat} {As st0 : List Value} {mem1 : fm_M} {PostC : Option Value → fm_M → Prop} (host : String) (hd : decode M.2.1 pc = .ok (.invokestatic idx, 3)) (hcal : fm_Met lay d2 M2 As mem PostC) (hdd : d2 + 1 ≤ d) (hce : fm_callee M2 n) (hlk : Cond.methodLinkNest M.2.2.2.2 idx M2.1 host ∈ fm_N) (hsta : Cond.static M2.1 ∈ fm_G) (hn : As.length = n) (hst : (st.map fun v => v.category).sum ≤ 8) (hs0 : st0 = As.reverse ++ st) (kk : ∀ v mem2, PostC v mem2 → fm_Go lay d M Post (pc + 3) ls (v.toList ++ st) mem2) : fm_Go lay d M Post pc ls st0 mem := by
  intro p l e R s0 s m args below meth c D cI cC ad A cells slots H locs sl Q C hl hP hD hS hR
  subst hs0
  have hr := C.2.2.2.2.2.2.2.2.2.1
  have hts := C.2.2.2.2.2.2.1
  have hrun := va_runSN_D (cs := lw_cs) (e := e) (R := R) (p := p) (l := l) (args := args) (c := c) (H := H) (locs := locs) (cells := cells) (slots := slots) (below := below) (meth := meth) (rest := st.map (fm_cv ad)) (As := As.map (fm_cv ad)) (g := F0 m pc sl ((As.reverse ++ st).map (fm_cv ad))) ⟨C.1, C.2.1, C.2.2.1, C.2.2.2.2.1, hts⟩ (hcal l D cI cC ad H.size) ⟨⟨⟨rfl, rfl, by show d2 + 1 ≤ _; omega, by have := hce.2.2.2.2; show 8 + (M2.2.2.1 + 11) + 27 * d2 ≤ _; omega, fm_words hce hts, List.mem_cons_self⟩, hts _ hce.1, hts _ hce.2.1, hce.2.2.1, hce.2.2.2.1, va_Nw.use rfl (C.2.2.2.2.2.2.2.1.2 _ hlk)⟩, hts _ hsta, trivial⟩
    ⟨fm_blind, fun U hU hW => fm_pre C.2.2.2.2.2.2.2.1 C.2.2.2.2.2.2.2.2.1 hP hD hS C.2.2.2.2.2.2.2.2.2.2.1 hU hW⟩ rfl (by rw [List.length_map]; exact hn) hl.1 (by show List.map _ _ = _; rw [List.map_append, List.map_reverse]) (by show 2 * 0 + _ ≤ 8; have := fm_st8 ad hst; omega) hd ⟨hr.2.2.1, hr.2.2.2⟩
  refine fm_back hrun C.2.2.2.2.2.2.2.2.2.2.2 hS (fm_Afree hD hS C.2.2.2.2.2.2.2.2.2.2.1) (fun v mem' H1 locs1 s1 hs1 hvm hhp hw hpost hP1 hS1 => ?_)
  obtain ⟨a1, a2, a3, a4, a5, a6, a7, a8, a9, a10, a11, a12⟩ := C
  have hsame : s.vm.Alike s1.vm := by rw [hvm]; exact Vm.Alike.refl _
  have C1 : fm_C d M p R s0 s1 m args meth c D cI cC ad A cells slots := ⟨a1, a2, a3, a4, by rw [hvm]; exact a5, a6, fun w hw1 => hw w (a7 w hw1), ⟨va_K.moved hsame a8.1, fm_N_same hvm.symm a8.2⟩, fm_X_same a9 hvm.symm hhp.symm, a10, by rw [hhp]; exact a11, hs1⟩
  have key := kk v mem' hpost p l e R s0 s1 m args below meth c D cI cC ad A cells slots H1 locs1 sl Q C1 hl hP1 (fm_D_mem hD) hS1 hR
  have e1 : ((v.toList ++ st).map (fm_cv ad)) = (v.map (fm_cv ad)).toList ++ st.map (fm_cv ad) := by cases v <;> rfl
  rw [e1] at key
  exact key
theorem go_ldcS {lay : List fm_L} {d : Nat} {M : fm_Me} {Post : Option Value → fm_M → Prop} {pc : Nat} {ls : List (Option Value)} {st : List Value} {mem : fm_M} {i idx : Nat} (hd : decode M.2.1 pc = .ok (.ldc idx, 2)) (hM : M.2.2.2.2 = RX2) (hi : i < 8) (hx : fm_cp.getD i 0 = idx) (kk : fm_Go lay d M Post (pc + 2) ls (.ref (1000 + i) :: st) mem) : fm_Go lay d M Post pc ls st mem := by
  intro p l e R s0 s m args below meth c D cI cC ad A cells slots H locs sl Q C hl hP hD hS hR
  have hR1 := C.2.2.2.2.2.2.2.2.1.2.1 i hi
  rw [hx] at hR1
  exact va_ldcS C.1 C.2.1 (by rw [← hM]; exact C.2.2.2.2.1) hR1 hd (kk p l e R s0 s m args below meth c D cI cC ad A cells slots H locs sl Q C hl hP hD hS hR)
theorem go_strval {lay : List fm_L} {d : Nat} {M : fm_Me} {Post : Option Value → fm_M → Prop} {pc : Nat} {ls : List (Option Value)} {st : List Value} {mem : fm_M} {i idx : Nat} (hd : decode M.2.1 pc = .ok (.getfield idx, 3)) (hi : i < 8) (hlink : Cond.fieldLink M.2.2.2.2 idx "java/lang/String" "value" "[B" ∈ fm_G) (kk : fm_Go lay d M Post (pc + 3) ls (.ref (2000 + i) :: st) mem) : fm_Go lay d M Post pc ls (.ref (1000 + i) :: st) mem := by
  intro p l e R s0 s m args below meth c D cI cC ad A cells slots H locs sl Q C hl hP hD hS hR
  exact vk_getf C.1 C.2.1 (C.2.2.2.2.2.2.2.2.1.1.1 i hi).2.2.1 hS C.2.2.2.2.1 (C.2.2.2.2.2.2.1 _ hlink) (fun _ h => h) hd (kk p l e R s0 s m args below meth c D cI cC ad A cells slots H locs sl Q C hl hP hD hS hR)
theorem go_strcod {lay : List fm_L} {d : Nat} {M : fm_Me} {Post : Option Value → fm_M → Prop} {pc : Nat} {ls : List (Option Value)} {st : List Value} {mem : fm_M} {i idx : Nat} (hd : decode M.2.1 pc = .ok (.getfield idx, 3)) (hi : i < 8) (hlink : Cond.fieldLink M.2.2.2.2 idx "java/lang/String" "coder" "B" ∈ fm_G) (kk : fm_Go lay d M Post (pc + 3) ls (.int 0 :: st) mem) : fm_Go lay d M Post pc ls (.ref (1000 + i) :: st) mem := by
  intro p l e R s0 s m args below meth c D cI cC ad A cells slots H locs sl Q C hl hP hD hS hR
  exact vk_getf C.1 C.2.1 (C.2.2.2.2.2.2.2.2.1.1.1 i hi).2.1 hS C.2.2.2.2.1 (C.2.2.2.2.2.2.1 _ hlink) (fun _ h => h) hd (kk p l e R s0 s m args below meth c D cI cC ad A cells slots H locs sl Q C hl hP hD hS hR)
theorem go_stralen {lay : List fm_L} {d : Nat} {M : fm_Me} {Post : Option Value → fm_M → Prop} {pc : Nat} {ls : List (Option Value)} {st : List Value} {mem : fm_M} {i : Nat} (hd : decode M.2.1 pc = .ok (.arraylength, 1)) (hi : i < 8) (kk : fm_Go lay d M Post (pc + 1) ls (.int (Int32.ofNat (fm_len.getD i 0)) :: st) mem) : fm_Go lay d M Post pc ls (.ref (2000 + i) :: st) mem := by
  intro p l e R s0 s m args below meth c D cI cC ad A cells slots H locs sl Q C hl hP hD hS hR
  exact va_tlen C.1 C.2.1 (C.2.2.2.2.2.2.2.2.1.1.1 i hi).2.2.2 hS rfl hd (kk p l e R s0 s m args below meth c D cI cC ad A cells slots H locs sl Q C hl hP hD hS hR)
theorem go_strbald {lay : List fm_L} {d : Nat} {M : fm_Me} {Post : Option Value → fm_M → Prop} {pc : Nat} {ls : List (Option Value)} {st : List Value} {mem : fm_M} {i : Nat} {x : Int32} (hd : decode M.2.1 pc = .ok (.baload, 1)) (hi : i < 8) (hin : vp_in x (fm_len.getD i 0)) (kk : fm_Go lay d M Post (pc + 1) ls (.int ((fm_byt.getD i []).getD x.toNatClampNeg 0) :: st) mem) : fm_Go lay d M Post pc ls (.int x :: .ref (2000 + i) :: st) mem := by
  intro p l e R s0 s m args below meth c D cI cC ad A cells slots H locs sl Q C hl hP hD hS hR
  exact va_tb C.1 C.2.1 (C.2.2.2.2.2.2.2.2.1.1.1 i hi).2.2.2 hS hin rfl hd (kk p l e R s0 s m args below meth c D cI cC ad A cells slots H locs sl Q C hl hP hD hS hR)
theorem go_getsC {lay : List fm_L} {d : Nat} {M : fm_Me} {Post : Option Value → fm_M → Prop} {pc : Nat} {ls : List (Option Value)} {st : List Value} {mem : fm_M} {idx : Nat} (hd : decode M.2.1 pc = .ok (.getstatic idx, 3)) (hlink : Cond.fieldLink M.2.2.2.2 idx "java/lang/String" "COMPACT_STRINGS" "Z" ∈ fm_G) (kk : fm_Go lay d M Post (pc + 3) ls (.int 1 :: st) mem) : fm_Go lay d M Post pc ls st mem := by
  intro p l e R s0 s m args below meth c D cI cC ad A cells slots H locs sl Q C hl hP hD hS hR
  exact va_gets C.1 C.2.1 C.2.2.2.2.2.2.2.2.1.2.2.1 hS C.2.2.2.2.1 (C.2.2.2.2.2.2.1 _ hlink) (fun _ h => h) hd (kk p l e R s0 s m args below meth c D cI cC ad A cells slots H locs sl Q C hl hP hD hS hR)
theorem go_getsF {lay : List fm_L} {d : Nat} {M : fm_Me} {Post : Option Value → fm_M → Prop} {pc : Nat} {ls : List (Option Value)} {st : List Value} {mem : fm_M} {idx : Nat} (hd : decode M.2.1 pc = .ok (.getstatic idx, 3)) (hlink : Cond.fieldLink M.2.2.2.2 idx "jdk/internal/util/Preconditions" "SIOOBE_FORMATTER" "Ljava/util/function/BiFunction;" ∈ fm_G) (kk : fm_Go lay d M Post (pc + 3) ls (.ref 3000 :: st) mem) : fm_Go lay d M Post pc ls st mem := by
  intro p l e R s0 s m args below meth c D cI cC ad A cells slots H locs sl Q C hl hP hD hS hR
  exact va_gets C.1 C.2.1 C.2.2.2.2.2.2.2.2.1.2.2.2 hS C.2.2.2.2.1 (C.2.2.2.2.2.2.1 _ hlink) (fun _ h => h) hd (kk p l e R s0 s m args below meth c D cI cC ad A cells slots H locs sl Q C hl hP hD hS hR)
theorem go_callT {lay : List fm_L} {d : Nat} {M : fm_Me} {Post : Option Value → fm_M → Prop} {pc : Nat} {ls : List (Option Value)} {st : List Value} {mem : fm_M} {M2 : fm_Me} {d2 n idx : Nat} {As st0 : List Value} {mem1 : fm_M} {PostC : Option Value → fm_M → Prop} {i : Nat} (hd : decode M.2.1 pc = .ok (.invokevirtual idx, 3)) (hi : i < 8) (hcal : fm_Met lay d2 M2 (.ref (1000 + i) :: As) mem PostC) (hdd : d2 + 1 ≤ d) (hce : fm_callee M2 n) (hlk : Cond.methodLink M.2.2.2.2 idx M2.1 ∈ fm_G) (hin : Cond.instanceMethod M2.1 ∈ fm_G) (hsel : Cond.selects "java/lang/String" M2.1 M2.1 ∈ fm_G) (hn : As.length = n) (hst : (st.map fun v => v.category).sum ≤ 8) (hs0 : st0 = As.reverse ++ .ref (1000 + i) :: st) (kk : ∀ v mem2, PostC v mem2 → fm_Go lay d M Post (pc + 3) ls (v.toList ++ st) mem2) : fm_Go lay d M Post pc ls st0 mem := by
  intro p l e R s0 s m args below meth c D cI cC ad A cells slots H locs sl Q C hl hP hD hS hR
  subst hs0
  have hr := C.2.2.2.2.2.2.2.2.2.1
  have hts := C.2.2.2.2.2.2.1
  have hrun := va_runV_D (cs := lw_cs) (e := e) (R := R) (p := p) (l := l) (args := args) (c := c) (H := H) (locs := locs) (cells := cells) (slots := slots) (below := below) (meth := meth) (rest := st.map (fm_cv ad)) (As := As.map (fm_cv ad)) (g := F0 m pc sl ((As.reverse ++ .ref (1000 + i) :: st).map (fm_cv ad))) (b := ad (1000 + i)) (C := "java/lang/String") ⟨C.1, C.2.1, C.2.2.1, C.2.2.2.2.1, hts⟩ (hcal l D cI cC ad H.size) ⟨fm_callB hce hts hdd ⟨hr.1, hr.2.1⟩ hlk, hts _ hin, hts _ hsel⟩
    ⟨fm_blind, vk_recv (adK := fun i => ad (1000 + i)) (i := i) C.2.2.2.2.2.2.2.2.1.1 hi hS, fun U hU hW => fm_pre C.2.2.2.2.2.2.2.1 C.2.2.2.2.2.2.2.2.1 hP hD hS C.2.2.2.2.2.2.2.2.2.2.1 hU hW⟩ rfl (by rw [List.length_map]; exact hn) hl.1 (by show List.map _ _ = _; rw [List.map_append, List.map_reverse]; rfl) (by show 2 * 0 + _ ≤ 8; have := fm_st8 ad hst; omega) hd ⟨hr.2.2.1, hr.2.2.2⟩
  refine fm_back hrun C.2.2.2.2.2.2.2.2.2.2.2 hS (fm_Afree hD hS C.2.2.2.2.2.2.2.2.2.2.1) (fun v mem' H1 locs1 s1 hs1 hvm hhp hw hpost hP1 hS1 => ?_)
  obtain ⟨a1, a2, a3, a4, a5, a6, a7, a8, a9, a10, a11, a12⟩ := C
  have hsame : s.vm.Alike s1.vm := by rw [hvm]; exact Vm.Alike.refl _
  have C1 : fm_C d M p R s0 s1 m args meth c D cI cC ad A cells slots := ⟨a1, a2, a3, a4, by rw [hvm]; exact a5, a6, fun w hw1 => hw w (a7 w hw1), ⟨va_K.moved hsame a8.1, fm_N_same hvm.symm a8.2⟩, fm_X_same a9 hvm.symm hhp.symm, a10, by rw [hhp]; exact a11, hs1⟩
  have key := kk v mem' hpost p l e R s0 s1 m args below meth c D cI cC ad A cells slots H1 locs1 sl Q C1 hl hP1 (fm_D_mem hD) hS1 hR
  have e1 : ((v.toList ++ st).map (fm_cv ad)) = (v.map (fm_cv ad)).toList ++ st.map (fm_cv ad) := by cases v <;> rfl
  rw [e1] at key
  exact key
end
section
abbrev fm_pi (r : Int32) (m : fm_M) : Option Value → fm_M → Prop := fun v m2 => v = some (.int r) ∧ m2 = m
abbrev fm_pv (m : fm_M) : Option Value → fm_M → Prop := fun v m2 => v = none ∧ m2 = m
abbrev fm_pr (q : Nat) (m : fm_M) : Option Value → fm_M → Prop := fun v m2 => v = some (.ref q) ∧ m2 = m
def fm_b (b : Bool) : Int32 := if b = true then 1 else 0
theorem fm_b_nar (b : Bool) : narrow .boolean (.int (fm_b b)) = .int (fm_b b) := by cases b <;> rfl
theorem fm_b_0 (b : Bool) : fm_b b = 0 ↔ b = false := by cases b <;> decide
theorem fm_bind {α β : Type} {x : Option α} {f : α → Option β} {b : β} (h : x.bind f = some b) : ∃ a, x = some a ∧ f a = some b := by
  cases x with
  | none => cases h
  | some a => exact ⟨a, rfl, h⟩
theorem fm_chk {c : Prop} [Decidable c] {β : Type} {x : Option β} {b : β} (h : (if c then x else none) = some b) : c ∧ x = some b := by
  by_cases hc : c
  · rw [if_pos hc] at h; exact ⟨hc, h⟩
  · rw [if_neg hc] at h; cases h
def fm_in (i : Int32) (n : Nat) : Bool := decide (¬ (i < 0 ∨ n ≤ i.toNatClampNeg))
theorem fm_in_vp {i : Int32} {n : Nat} (h : fm_in i n = true) : vp_in i n := by
  have h1 : ¬ (i < 0 ∨ n ≤ i.toNatClampNeg) := of_decide_eq_true (p := ¬ (i < 0 ∨ n ≤ i.toNatClampNeg)) h
  exact h1
def fm_cpok (sp dp n : Int32) (n0 n1 : Nat) : Bool := decide (¬ sp < 0) && (decide (¬ dp < 0) && (decide (¬ n < 0) && (decide (sp.toNatClampNeg + n.toNatClampNeg ≤ n0) && decide (dp.toNatClampNeg + n.toNatClampNeg ≤ n1))))
theorem fm_cpok_of {sp dp n : Int32} {n0 n1 : Nat} (h : fm_cpok sp dp n n0 n1 = true) : ¬ sp < 0 ∧ ¬ dp < 0 ∧ ¬ n < 0 ∧ sp.toNatClampNeg + n.toNatClampNeg ≤ n0 ∧ dp.toNatClampNeg + n.toNatClampNeg ≤ n1 := by
  unfold fm_cpok at h
  simp only [Bool.and_eq_true, decide_eq_true_eq] at h
  exact h
/-- as long as any loop needs -/
def fm_F : Nat := 4000
theorem fm_cc_0 : ∀ v ∈ ([] : List Value), v.category = 1 := fun _ h => absurd h List.not_mem_nil
theorem fm_cc_r {as : List Value} (q : Nat) (h : ∀ v ∈ as, v.category = 1) : ∀ v ∈ Value.ref q :: as, v.category = 1 := List.forall_mem_cons.mpr ⟨rfl, h⟩
theorem fm_cc_i {as : List Value} (x : Int32) (h : ∀ v ∈ as, v.category = 1) : ∀ v ∈ Value.int x :: as, v.category = 1 := List.forall_mem_cons.mpr ⟨rfl, h⟩
theorem go_drop {lay : List fm_L} {d : Nat} {M : fm_Me} {Post : Option Value → fm_M → Prop} {pc : Nat} {ls : List (Option Value)} {st : List Value} {mem : fm_M} (i : Nat) {ls1 : List (Option Value)} (h1 : ls.set i none = ls1) (kk : fm_Go lay d M Post pc ls1 st mem) : fm_Go lay d M Post pc ls st mem := by
  intro p l e R s0 s m args below meth c D cI cC ad A cells slots H locs sl Q C hl hP hD hS hR
  subst h1
  refine kk p l e R s0 s m args below meth c D cI cC ad A cells slots H locs sl Q C ⟨hl.1, hl.2.1, fun j v hj => hl.2.2 j v ?_⟩ hP hD hS hR
  rw [List.getElem?_set] at hj
  split at hj
  next => split at hj <;> cases hj
  next => exact hj
theorem go_ifb_eq {lay : List fm_L} {d : Nat} {M : fm_Me} {Post : Option Value → fm_M → Prop} {pc : Nat} {ls : List (Option Value)} {st : List Value} {mem : fm_M} {b : Bool} {off : Int} {tgt : Nat} (hd : decode M.2.1 pc = .ok (.ifCond .eq off, 3)) (ht : (pc : Int) + off = (tgt : Int)) (kt : b = false → fm_Go lay d M Post tgt ls st mem) (kf : b = true → fm_Go lay d M Post (pc + 3) ls st mem) : fm_Go lay d M Post pc ls (.int (fm_b b) :: st) mem := go_if_eq hd ht (fun z => kt ((fm_b_0 _).mp z)) (fun z => kf (by cases b with | true => rfl | false => exact absurd rfl z))
theorem go_ifb_ne {lay : List fm_L} {d : Nat} {M : fm_Me} {Post : Option Value → fm_M → Prop} {pc : Nat} {ls : List (Option Value)} {st : List Value} {mem : fm_M} {b : Bool} {off : Int} {tgt : Nat} (hd : decode M.2.1 pc = .ok (.ifCond .ne off, 3)) (ht : (pc : Int) + off = (tgt : Int)) (kt : b = true → fm_Go lay d M Post tgt ls st mem) (kf : b = false → fm_Go lay d M Post (pc + 3) ls st mem) : fm_Go lay d M Post pc ls (.int (fm_b b) :: st) mem := go_if_ne hd ht (fun z => kt (by cases b with | true => rfl | false => exact absurd rfl z)) (fun z => kf ((fm_b_0 _).mp z))
theorem go_tswHit {lay : List fm_L} {d : Nat} {M : fm_Me} {Post : Option Value → fm_M → Prop} {pc : Nat} {ls : List (Option Value)} {st : List Value} {mem : fm_M} {dflt lo hi : Int} {offs : Array Int} {len : Nat} {x v : Int32} {off : Int} {tgt : Nat} (hd : decode M.2.1 pc = .ok (.tableswitch dflt lo hi offs, len)) (hx : x = v) (h1 : ¬ v.toInt < lo) (h2 : ¬ hi < v.toInt) (ho : offs[(v.toInt - lo).toNat]? = some off) (ht : (pc : Int) + off = (tgt : Int)) (kk : fm_Go lay d M Post tgt ls st mem) : fm_Go lay d M Post pc ls (.int x :: st) mem := by
  intro p l e R s0 s m args below meth c D cI cC ad A cells slots H locs sl Q C hl hP hD hS hR
  subst hx
  exact lv_tableIn C.1 C.2.1 hd h1 h2 ho ht (kk p l e R s0 s m args below meth c D cI cC ad A cells slots H locs sl Q C hl hP hD hS hR)
theorem go_tswMiss {lay : List fm_L} {d : Nat} {M : fm_Me} {Post : Option Value → fm_M → Prop} {pc : Nat} {ls : List (Option Value)} {st : List Value} {mem : fm_M} {dflt lo hi : Int} {offs : Array Int} {len : Nat} {x : Int32} {tgt : Nat} (hd : decode M.2.1 pc = .ok (.tableswitch dflt lo hi offs, len)) (n : Nat) (hn : hi < lo + n) (hm : ∀ j, j < n → ¬ x.toInt = lo + j ∨ offs[j]? = some dflt) (ht : (pc : Int) + dflt = (tgt : Int)) (kk : fm_Go lay d M Post tgt ls st mem) : fm_Go lay d M Post pc ls (.int x :: st) mem := by
  intro p l e R s0 s m args below meth c D cI cC ad A cells slots H locs sl Q C hl hP hD hS hR
  by_cases ho : x.toInt < lo ∨ hi < x.toInt
  · exact lv_tableOut C.1 C.2.1 hd ho ht (kk p l e R s0 s m args below meth c D cI cC ad A cells slots H locs sl Q C hl hP hD hS hR)
  · have h1 : ¬ x.toInt < lo := fun z => ho (Or.inl z)
    have h2 : ¬ hi < x.toInt := fun z => ho (Or.inr z)
    rcases hm (x.toInt - lo).toNat (by omega) with h | h
    · exact absurd (by omega) h
    · exact lv_tableIn C.1 C.2.1 hd h1 h2 h ht (kk p l e R s0 s m args below meth c D cI cC ad A cells slots H locs sl Q C hl hP hD hS hR)
theorem go_callVi {lay : List fm_L} {d : Nat} {M : fm_Me} {Post : Option Value → fm_M → Prop} {pc : Nat} {ls : List (Option Value)} {st : List Value} {mem : fm_M} {M2 : fm_Me} {d2 n idx : Nat} {As st0 : List Value} {m2 : fm_M} {r : Int32} {q ci N : Nat} {fl : List (Option (Option Nat))} {C0 : String} {T : u_T} (hd : decode M.2.1 pc = .ok (.invokevirtual idx, 3)) (hcal : fm_Met lay d2 M2 (.ref q :: As) mem (fm_pi r m2)) (hdd : d2 + 1 ≤ d) (hce : fm_callee M2 n) (hlk : Cond.methodLink M.2.2.2.2 idx M2.1 ∈ fm_G) (hin : Cond.instanceMethod M2.1 ∈ fm_G) (hsel : Cond.selects C0 M2.1 M2.1 ∈ fm_G) (hc : fm_cls ci C0 T N) (he : lay[q]? = some (.inr (ci, fl))) (hn : As.length = n) (hst : (st.map fun v => v.category).sum ≤ 8) (hs0 : st0 = As.reverse ++ .ref q :: st) (kk : fm_Go lay d M Post (pc + 3) ls (.int r :: st) m2) : fm_Go lay d M Post pc ls st0 mem := go_callV (mem1 := mem) hd hcal hdd hce hlk hin hsel hc he hn hst hs0 (fun v mem2 hv => by obtain ⟨rfl, rfl⟩ := hv; exact kk)
theorem go_callSi {lay : List fm_L} {d : Nat} {M : fm_Me} {Post : Option Value → fm_M → Prop} {pc : Nat} {ls : List (Option Value)} {st : List Value} {mem : fm_M} {M2 : fm_Me} {d2 n idx : Nat} {As st0 : List Value} {m2 : fm_M} {r : Int32} (hd : decode M.2.1 pc = .ok (.invokestatic idx, 3)) (hcal : fm_Met lay d2 M2 As mem (fm_pi r m2)) (hdd : d2 + 1 ≤ d) (hce : fm_callee M2 n) (hlk : Cond.methodLink M.2.2.2.2 idx M2.1 ∈ fm_G) (hsta : Cond.static M2.1 ∈ fm_G) (hn : As.length = n) (hst : (st.map fun v => v.category).sum ≤ 8) (hs0 : st0 = As.reverse ++ st) (kk : fm_Go lay d M Post (pc + 3) ls (.int r :: st) m2) : fm_Go lay d M Post pc ls st0 mem := go_callS (mem1 := mem) hd hcal hdd hce hlk hsta hn hst hs0 (fun v mem2 hv => by obtain ⟨rfl, rfl⟩ := hv; exact kk)
theorem go_callSNi {lay : List fm_L} {d : Nat} {M : fm_Me} {Post : Option Value → fm_M → Prop} {pc : Nat} {ls : List (Option Value)} {st : List Value} {mem : fm_M} {M2 : fm_Me} {d2 n idx : Nat} {As st0 : List Value} {m2 : fm_M} {r : Int32} (host : String) (hd : decode M.2.1 pc = .ok (.invokestatic idx, 3)) (hcal : fm_Met lay d2 M2 As mem (fm_pi r m2)) (hdd : d2 + 1 ≤ d) (hce : fm_callee M2 n) (hlk : Cond.methodLinkNest M.2.2.2.2 idx M2.1 host ∈ fm_N) (hsta : Cond.static M2.1 ∈ fm_G) (hn : As.length = n) (hst : (st.map fun v => v.category).sum ≤ 8) (hs0 : st0 = As.reverse ++ st) (kk : fm_Go lay d M Post (pc + 3) ls (.int r :: st) m2) : fm_Go lay d M Post pc ls st0 mem := go_callSN (mem1 := mem) host hd hcal hdd hce hlk hsta hn hst hs0 (fun v mem2 hv => by obtain ⟨rfl, rfl⟩ := hv; exact kk)
theorem go_callVv {lay : List fm_L} {d : Nat} {M : fm_Me} {Post : Option Value → fm_M → Prop} {pc : Nat} {ls : List (Option Value)} {st : List Value} {mem : fm_M} {M2 : fm_Me} {d2 n idx : Nat} {As st0 : List Value} {m2 : fm_M} {q ci N : Nat} {fl : List (Option (Option Nat))} {C0 : String} {T : u_T} (hd : decode M.2.1 pc = .ok (.invokevirtual idx, 3)) (hcal : fm_Met lay d2 M2 (.ref q :: As) mem (fm_pv m2)) (hdd : d2 + 1 ≤ d) (hce : fm_callee M2 n) (hlk : Cond.methodLink M.2.2.2.2 idx M2.1 ∈ fm_G) (hin : Cond.instanceMethod M2.1 ∈ fm_G) (hsel : Cond.selects C0 M2.1 M2.1 ∈ fm_G) (hc : fm_cls ci C0 T N) (he : lay[q]? = some (.inr (ci, fl))) (hn : As.length = n) (hst : (st.map fun v => v.category).sum ≤ 8) (hs0 : st0 = As.reverse ++ .ref q :: st) (kk : fm_Go lay d M Post (pc + 3) ls st m2) : fm_Go lay d M Post pc ls st0 mem := go_callV (mem1 := mem) hd hcal hdd hce hlk hin hsel hc he hn hst hs0 (fun v mem2 hv => by obtain ⟨rfl, rfl⟩ := hv; exact kk)
theorem go_callSv {lay : List fm_L} {d : Nat} {M : fm_Me} {Post : Option Value → fm_M → Prop} {pc : Nat} {ls : List (Option Value)} {st : List Value} {mem : fm_M} {M2 : fm_Me} {d2 n idx : Nat} {As st0 : List Value} {m2 : fm_M} (hd : decode M.2.1 pc = .ok (.invokestatic idx, 3)) (hcal : fm_Met lay d2 M2 As mem (fm_pv m2)) (hdd : d2 + 1 ≤ d) (hce : fm_callee M2 n) (hlk : Cond.methodLink M.2.2.2.2 idx M2.1 ∈ fm_G) (hsta : Cond.static M2.1 ∈ fm_G) (hn : As.length = n) (hst : (st.map fun v => v.category).sum ≤ 8) (hs0 : st0 = As.reverse ++ st) (kk : fm_Go lay d M Post (pc + 3) ls st m2) : fm_Go lay d M Post pc ls st0 mem := go_callS (mem1 := mem) hd hcal hdd hce hlk hsta hn hst hs0 (fun v mem2 hv => by obtain ⟨rfl, rfl⟩ := hv; exact kk)
theorem go_callSNv {lay : List fm_L} {d : Nat} {M : fm_Me} {Post : Option Value → fm_M → Prop} {pc : Nat} {ls : List (Option Value)} {st : List Value} {mem : fm_M} {M2 : fm_Me} {d2 n idx : Nat} {As st0 : List Value} {m2 : fm_M} (host : String) (hd : decode M.2.1 pc = .ok (.invokestatic idx, 3)) (hcal : fm_Met lay d2 M2 As mem (fm_pv m2)) (hdd : d2 + 1 ≤ d) (hce : fm_callee M2 n) (hlk : Cond.methodLinkNest M.2.2.2.2 idx M2.1 host ∈ fm_N) (hsta : Cond.static M2.1 ∈ fm_G) (hn : As.length = n) (hst : (st.map fun v => v.category).sum ≤ 8) (hs0 : st0 = As.reverse ++ st) (kk : fm_Go lay d M Post (pc + 3) ls st m2) : fm_Go lay d M Post pc ls st0 mem := go_callSN (mem1 := mem) host hd hcal hdd hce hlk hsta hn hst hs0 (fun v mem2 hv => by obtain ⟨rfl, rfl⟩ := hv; exact kk)
theorem go_callVr {lay : List fm_L} {d : Nat} {M : fm_Me} {Post : Option Value → fm_M → Prop} {pc : Nat} {ls : List (Option Value)} {st : List Value} {mem : fm_M} {M2 : fm_Me} {d2 n idx : Nat} {As st0 : List Value} {m2 : fm_M} {q2 : Nat} {q ci N : Nat} {fl : List (Option (Option Nat))} {C0 : String} {T : u_T} (hd : decode M.2.1 pc = .ok (.invokevirtual idx, 3)) (hcal : fm_Met lay d2 M2 (.ref q :: As) mem (fm_pr q2 m2)) (hdd : d2 + 1 ≤ d) (hce : fm_callee M2 n) (hlk : Cond.methodLink M.2.2.2.2 idx M2.1 ∈ fm_G) (hin : Cond.instanceMethod M2.1 ∈ fm_G) (hsel : Cond.selects C0 M2.1 M2.1 ∈ fm_G) (hc : fm_cls ci C0 T N) (he : lay[q]? = some (.inr (ci, fl))) (hn : As.length = n) (hst : (st.map fun v => v.category).sum ≤ 8) (hs0 : st0 = As.reverse ++ .ref q :: st) (kk : fm_Go lay d M Post (pc + 3) ls (.ref q2 :: st) m2) : fm_Go lay d M Post pc ls st0 mem := go_callV (mem1 := mem) hd hcal hdd hce hlk hin hsel hc he hn hst hs0 (fun v mem2 hv => by obtain ⟨rfl, rfl⟩ := hv; exact kk)
theorem go_callSr {lay : List fm_L} {d : Nat} {M : fm_Me} {Post : Option Value → fm_M → Prop} {pc : Nat} {ls : List (Option Value)} {st : List Value} {mem : fm_M} {M2 : fm_Me} {d2 n idx : Nat} {As st0 : List Value} {m2 : fm_M} {q2 : Nat} (hd : decode M.2.1 pc = .ok (.invokestatic idx, 3)) (hcal : fm_Met lay d2 M2 As mem (fm_pr q2 m2)) (hdd : d2 + 1 ≤ d) (hce : fm_callee M2 n) (hlk : Cond.methodLink M.2.2.2.2 idx M2.1 ∈ fm_G) (hsta : Cond.static M2.1 ∈ fm_G) (hn : As.length = n) (hst : (st.map fun v => v.category).sum ≤ 8) (hs0 : st0 = As.reverse ++ st) (kk : fm_Go lay d M Post (pc + 3) ls (.ref q2 :: st) m2) : fm_Go lay d M Post pc ls st0 mem := go_callS (mem1 := mem) hd hcal hdd hce hlk hsta hn hst hs0 (fun v mem2 hv => by obtain ⟨rfl, rfl⟩ := hv; exact kk)
theorem go_callSNr {lay : List fm_L} {d : Nat} {M : fm_Me} {Post : Option Value → fm_M → Prop} {pc : Nat} {ls : List (Option Value)} {st : List Value} {mem : fm_M} {M2 : fm_Me} {d2 n idx : Nat} {As st0 : List Value} {m2 : fm_M} {q2 : Nat} (host : String) (hd : decode M.2.1 pc = .ok (.invokestatic idx, 3)) (hcal : fm_Met lay d2 M2 As mem (fm_pr q2 m2)) (hdd : d2 + 1 ≤ d) (hce : fm_callee M2 n) (hlk : Cond.methodLinkNest M.2.2.2.2 idx M2.1 host ∈ fm_N) (hsta : Cond.static M2.1 ∈ fm_G) (hn : As.length = n) (hst : (st.map fun v => v.category).sum ≤ 8) (hs0 : st0 = As.reverse ++ st) (kk : fm_Go lay d M Post (pc + 3) ls (.ref q2 :: st) m2) : fm_Go lay d M Post pc ls st0 mem := go_callSN (mem1 := mem) host hd hcal hdd hce hlk hsta hn hst hs0 (fun v mem2 hv => by obtain ⟨rfl, rfl⟩ := hv; exact kk)
theorem go_callTi {lay : List fm_L} {d : Nat} {M : fm_Me} {Post : Option Value → fm_M → Prop} {pc : Nat} {ls : List (Option Value)} {st : List Value} {mem : fm_M} {M2 : fm_Me} {d2 n idx : Nat} {As st0 : List Value} {m2 : fm_M} {r : Int32} {i : Nat} (hd : decode M.2.1 pc = .ok (.invokevirtual idx, 3)) (hi : i < 8) (hcal : fm_Met lay d2 M2 (.ref (1000 + i) :: As) mem (fm_pi r m2)) (hdd : d2 + 1 ≤ d) (hce : fm_callee M2 n) (hlk : Cond.methodLink M.2.2.2.2 idx M2.1 ∈ fm_G) (hin : Cond.instanceMethod M2.1 ∈ fm_G) (hsel : Cond.selects "java/lang/String" M2.1 M2.1 ∈ fm_G) (hn : As.length = n) (hst : (st.map fun v => v.category).sum ≤ 8) (hs0 : st0 = As.reverse ++ .ref (1000 + i) :: st) (kk : fm_Go lay d M Post (pc + 3) ls (.int r :: st) m2) : fm_Go lay d M Post pc ls st0 mem := go_callT (mem1 := mem) hd hi hcal hdd hce hlk hin hsel hn hst hs0 (fun v mem2 hv => by obtain ⟨rfl, rfl⟩ := hv; exact kk)
end
section
theorem fin_X0 : ∀ w ∈ u_ws RX0 TX0 4, w ∈ fm_G := (List.forall_mem_cons.mpr ⟨fm_mem 144 (by decide +kernel) (by decide +kernel), (List.forall_mem_cons.mpr ⟨fm_mem 146 (by decide +kernel) (by decide +kernel), (List.forall_mem_cons.mpr ⟨fm_mem 148 (by decide +kernel) (by decide +kernel), (List.forall_mem_cons.mpr ⟨fm_mem 150 (by decide +kernel) (by decide +kernel), (fun _ h => absurd h List.not_mem_nil)⟩)⟩)⟩)⟩)
theorem cl_X0 : fm_cls 0 RX0 TX0 4 := ⟨rfl, fin_X0, tyX0, tyX0_ok, nmX0⟩
theorem fin_X1 : ∀ w ∈ u_ws RX1 TX1 3, w ∈ fm_G := (List.forall_mem_cons.mpr ⟨fm_mem 164 (by decide +kernel) (by decide +kernel), (List.forall_mem_cons.mpr ⟨fm_mem 166 (by decide +kernel) (by decide +kernel), (List.forall_mem_cons.mpr ⟨fm_mem 168 (by decide +kernel) (by decide +kernel), (fun _ h => absurd h List.not_mem_nil)⟩)⟩)⟩)
theorem cl_X1 : fm_cls 1 RX1 TX1 3 := ⟨rfl, fin_X1, tyX1, tyX1_ok, nmX1⟩
theorem fin_X2 : ∀ w ∈ u_ws RX2 TX2 6, w ∈ fm_G := (List.forall_mem_cons.mpr ⟨fm_mem 183 (by decide +kernel) (by decide +kernel), (List.forall_mem_cons.mpr ⟨fm_mem 185 (by decide +kernel) (by decide +kernel), (List.forall_mem_cons.mpr ⟨fm_mem 187 (by decide +kernel) (by decide +kernel), (List.forall_mem_cons.mpr ⟨fm_mem 189 (by decide +kernel) (by decide +kernel), (List.forall_mem_cons.mpr ⟨fm_mem 191 (by decide +kernel) (by decide +kernel), (List.forall_mem_cons.mpr ⟨fm_mem 193 (by decide +kernel) (by decide +kernel), (fun _ h => absurd h List.not_mem_nil)⟩)⟩)⟩)⟩)⟩)⟩)
theorem cl_X2 : fm_cls 2 RX2 TX2 6 := ⟨rfl, fin_X2, tyX2, tyX2_ok, nmX2⟩
theorem fin_X3 : ∀ w ∈ u_ws RX3 TX3 1, w ∈ fm_G := (List.forall_mem_cons.mpr ⟨fm_mem 137 (by decide +kernel) (by decide +kernel), (fun _ h => absurd h List.not_mem_nil)⟩)
theorem cl_X3 : fm_cls 3 RX3 TX3 1 := ⟨rfl, fin_X3, tyX3, tyX3_ok, nmX3⟩
theorem fin_X4 : ∀ w ∈ u_ws RX4 TX4 2, w ∈ fm_G := (List.forall_mem_cons.mpr ⟨fm_mem 207 (by decide +kernel) (by decide +kernel), (List.forall_mem_cons.mpr ⟨fm_mem 209 (by decide +kernel) (by decide +kernel), (fun _ h => absurd h List.not_mem_nil)⟩)⟩)
theorem cl_X4 : fm_cls 4 RX4 TX4 2 := ⟨rfl, fin_X4, tyX4, tyX4_ok, nmX4⟩
theorem fin_X5 : ∀ w ∈ u_ws RX5 TX5 1, w ∈ fm_G := (List.forall_mem_cons.mpr ⟨fm_mem 118 (by decide +kernel) (by decide +kernel), (fun _ h => absurd h List.not_mem_nil)⟩)
theorem cl_X5 : fm_cls 5 RX5 TX5 1 := ⟨rfl, fin_X5, tyX5, tyX5_ok, nmX5⟩
theorem fin_X6 : ∀ w ∈ u_ws RX6 TX6 12, w ∈ fm_G := (List.forall_mem_cons.mpr ⟨fm_mem 224 (by decide +kernel) (by decide +kernel), (List.forall_mem_cons.mpr ⟨fm_mem 226 (by decide +kernel) (by decide +kernel), (List.forall_mem_cons.mpr ⟨fm_mem 228 (by decide +kernel) (by decide +kernel), (List.forall_mem_cons.mpr ⟨fm_mem 230 (by decide +kernel) (by decide +kernel), (List.forall_mem_cons.mpr ⟨fm_mem 232 (by decide +kernel) (by decide +kernel), (List.forall_mem_cons.mpr ⟨fm_mem 234 (by decide +kernel) (by decide +kernel), (List.forall_mem_cons.mpr ⟨fm_mem 236 (by decide +kernel) (by decide +kernel), (List.forall_mem_cons.mpr ⟨fm_mem 238 (by decide +kernel) (by decide +kernel), (List.forall_mem_cons.mpr ⟨fm_mem 240 (by decide +kernel) (by decide +kernel), (List.forall_mem_cons.mpr ⟨fm_mem 242 (by decide +kernel) (by decide +kernel), (List.forall_mem_cons.mpr ⟨fm_mem 244 (by decide +kernel) (by decide +kernel), (List.forall_mem_cons.mpr ⟨fm_mem 246 (by decide +kernel) (by decide +kernel), (fun _ h => absurd h List.not_mem_nil)⟩)⟩)⟩)⟩)⟩)⟩)⟩)⟩)⟩)⟩)⟩)⟩)
theorem cl_X6 : fm_cls 6 RX6 TX6 12 := ⟨rfl, fin_X6, tyX6, tyX6_ok, nmX6⟩
theorem fin_X7 : ∀ w ∈ u_ws RX7 TX7 20, w ∈ fm_G := (List.forall_mem_cons.mpr ⟨fm_mem 815 (by decide +kernel) (by decide +kernel), (List.forall_mem_cons.mpr ⟨fm_mem 817 (by decide +kernel) (by decide +kernel), (List.forall_mem_cons.mpr ⟨fm_mem 819 (by decide +kernel) (by decide +kernel), (List.forall_mem_cons.mpr ⟨fm_mem 821 (by decide +kernel) (by decide +kernel), (List.forall_mem_cons.mpr ⟨fm_mem 823 (by decide +kernel) (by decide +kernel), (List.forall_mem_cons.mpr ⟨fm_mem 825 (by decide +kernel) (by decide +kernel), (List.forall_mem_cons.mpr ⟨fm_mem 827 (by decide +kernel) (by decide +kernel), (List.forall_mem_cons.mpr ⟨fm_mem 829 (by decide +kernel) (by decide +kernel), (List.forall_mem_cons.mpr ⟨fm_mem 831 (by decide +kernel) (by decide +kernel), (List.forall_mem_cons.mpr ⟨fm_mem 833 (by decide +kernel) (by decide +kernel), (List.forall_mem_cons.mpr ⟨fm_mem 835 (by decide +kernel) (by decide +kernel), (List.forall_mem_cons.mpr ⟨fm_mem 837 (by decide +kernel) (by decide +kernel), (List.forall_mem_cons.mpr ⟨fm_mem 839 (by decide +kernel) (by decide +kernel), (List.forall_mem_cons.mpr ⟨fm_mem 841 (by decide +kernel) (by decide +kernel), (List.forall_mem_cons.mpr ⟨fm_mem 843 (by decide +kernel) (by decide +kernel), (List.forall_mem_cons.mpr ⟨fm_mem 845 (by decide +kernel) (by decide +kernel), (List.forall_mem_cons.mpr ⟨fm_mem 847 (by decide +kernel) (by decide +kernel), (List.forall_mem_cons.mpr ⟨fm_mem 849 (by decide +kernel) (by decide +kernel), (List.forall_mem_cons.mpr ⟨fm_mem 851 (by decide +kernel) (by decide +kernel), (List.forall_mem_cons.mpr ⟨fm_mem 853 (by decide +kernel) (by decide +kernel), (fun _ h => absurd h List.not_mem_nil)⟩)⟩)⟩)⟩)⟩)⟩)⟩)⟩)⟩)⟩)⟩)⟩)⟩)⟩)⟩)⟩)⟩)⟩)⟩)⟩)
theorem cl_X7 : fm_cls 7 RX7 TX7 20 := ⟨rfl, fin_X7, tyX7, tyX7_ok, nmX7⟩
abbrev m_X5_set : fm_Me := (yX5_set, cX5_set, 3, none, RX5)
theorem ce_X5_set : fm_callee m_X5_set 2 := fm_callee_of 2 (fm_mem 116 (by decide +kernel) (by decide +kernel)) (fm_mem 82 (by decide +kernel) (by decide +kernel)) (by decide +kernel) (by decide +kernel) (by decide)
theorem in_X5_set : Cond.instanceMethod yX5_set ∈ fm_G := fm_mem 114 (by decide +kernel) (by decide +kernel)
theorem se_X5_set : Cond.selects RX5 yX5_set yX5_set ∈ fm_G := fm_mem 115 (by decide +kernel) (by decide +kernel)
abbrev m_X5_setOf : fm_Me := (yX5_setOf, cX5_setOf, 4, none, RX5)
theorem ce_X5_setOf : fm_callee m_X5_setOf 3 := fm_callee_of 3 (fm_mem 112 (by decide +kernel) (by decide +kernel)) (fm_mem 82 (by decide +kernel) (by decide +kernel)) (by decide +kernel) (by decide +kernel) (by decide)
theorem in_X5_setOf : Cond.instanceMethod yX5_setOf ∈ fm_G := fm_mem 110 (by decide +kernel) (by decide +kernel)
theorem se_X5_setOf : Cond.selects RX5 yX5_setOf yX5_setOf ∈ fm_G := fm_mem 111 (by decide +kernel) (by decide +kernel)
abbrev m_X5_init : fm_Me := (yX5_init, cX5_init, 2, none, RX5)
theorem ce_X5_init : fm_callee m_X5_init 0 := fm_callee_of 0 (fm_mem 107 (by decide +kernel) (by decide +kernel)) (fm_mem 82 (by decide +kernel) (by decide +kernel)) (by decide +kernel) (by decide +kernel) (by decide)
theorem in_X5_init : Cond.instanceMethod yX5_init ∈ fm_G := fm_mem 106 (by decide +kernel) (by decide +kernel)
abbrev m_X3_init : fm_Me := (yX3_init, cX3_init, 1, none, RX3)
theorem ce_X3_init : fm_callee m_X3_init 0 := fm_callee_of 0 (fm_mem 134 (by decide +kernel) (by decide +kernel)) (fm_mem 84 (by decide +kernel) (by decide +kernel)) (by decide +kernel) (by decide +kernel) (by decide)
theorem in_X3_init : Cond.instanceMethod yX3_init ∈ fm_G := fm_mem 133 (by decide +kernel) (by decide +kernel)
abbrev m_X0_init : fm_Me := (yX0_init, cX0_init, 1, none, RX0)
theorem ce_X0_init : fm_callee m_X0_init 0 := fm_callee_of 0 (fm_mem 126 (by decide +kernel) (by decide +kernel)) (fm_mem 83 (by decide +kernel) (by decide +kernel)) (by decide +kernel) (by decide +kernel) (by decide)
theorem in_X0_init : Cond.instanceMethod yX0_init ∈ fm_G := fm_mem 125 (by decide +kernel) (by decide +kernel)
abbrev m_X5_copyFrom : fm_Me := (yX5_copyFrom, cX5_copyFrom, 2, none, RX5)
theorem ce_X5_copyFrom : fm_callee m_X5_copyFrom 1 := fm_callee_of 1 (fm_mem 264 (by decide +kernel) (by decide +kernel)) (fm_mem 82 (by decide +kernel) (by decide +kernel)) (by decide +kernel) (by decide +kernel) (by decide)
theorem in_X5_copyFrom : Cond.instanceMethod yX5_copyFrom ∈ fm_G := fm_mem 262 (by decide +kernel) (by decide +kernel)
theorem se_X5_copyFrom : Cond.selects RX5 yX5_copyFrom yX5_copyFrom ∈ fm_G := fm_mem 263 (by decide +kernel) (by decide +kernel)
abbrev m_X0_beginFrom : fm_Me := (yX0_beginFrom, cX0_beginFrom, 2, none, RX0)
theorem ce_X0_beginFrom : fm_callee m_X0_beginFrom 1 := fm_callee_of 1 (fm_mem 260 (by decide +kernel) (by decide +kernel)) (fm_mem 83 (by decide +kernel) (by decide +kernel)) (by decide +kernel) (by decide +kernel) (by decide)
theorem in_X0_beginFrom : Cond.instanceMethod yX0_beginFrom ∈ fm_G := fm_mem 258 (by decide +kernel) (by decide +kernel)
theorem se_X0_beginFrom : Cond.selects RX0 yX0_beginFrom yX0_beginFrom ∈ fm_G := fm_mem 259 (by decide +kernel) (by decide +kernel)
abbrev m_X0_result : fm_Me := (yX0_result, cX0_result, 1, some (.object "PittanceHouse$State"), RX0)
theorem ce_X0_result : fm_callee m_X0_result 0 := fm_callee_of 0 (fm_mem 301 (by decide +kernel) (by decide +kernel)) (fm_mem 83 (by decide +kernel) (by decide +kernel)) (by decide +kernel) (by decide +kernel) (by decide)
theorem in_X0_result : Cond.instanceMethod yX0_result ∈ fm_G := fm_mem 299 (by decide +kernel) (by decide +kernel)
theorem se_X0_result : Cond.selects RX0 yX0_result yX0_result ∈ fm_G := fm_mem 300 (by decide +kernel) (by decide +kernel)
abbrev m_X0_refusedFor : fm_Me := (yX0_refusedFor, cX0_refusedFor, 1, some .int, RX0)
theorem ce_X0_refusedFor : fm_callee m_X0_refusedFor 0 := fm_callee_of 0 (fm_mem 306 (by decide +kernel) (by decide +kernel)) (fm_mem 83 (by decide +kernel) (by decide +kernel)) (by decide +kernel) (by decide +kernel) (by decide)
theorem in_X0_refusedFor : Cond.instanceMethod yX0_refusedFor ∈ fm_G := fm_mem 304 (by decide +kernel) (by decide +kernel)
theorem se_X0_refusedFor : Cond.selects RX0 yX0_refusedFor yX0_refusedFor ∈ fm_G := fm_mem 305 (by decide +kernel) (by decide +kernel)
abbrev m_X0_refusedDetail : fm_Me := (yX0_refusedDetail, cX0_refusedDetail, 1, some .int, RX0)
theorem ce_X0_refusedDetail : fm_callee m_X0_refusedDetail 0 := fm_callee_of 0 (fm_mem 310 (by decide +kernel) (by decide +kernel)) (fm_mem 83 (by decide +kernel) (by decide +kernel)) (by decide +kernel) (by decide +kernel) (by decide)
theorem in_X0_refusedDetail : Cond.instanceMethod yX0_refusedDetail ∈ fm_G := fm_mem 308 (by decide +kernel) (by decide +kernel)
theorem se_X0_refusedDetail : Cond.selects RX0 yX0_refusedDetail yX0_refusedDetail ∈ fm_G := fm_mem 309 (by decide +kernel) (by decide +kernel)
abbrev m_X0_refuse : fm_Me := (yX0_refuse, cX0_refuse, 3, some .int, RX0)
theorem ce_X0_refuse : fm_callee m_X0_refuse 2 := fm_callee_of 2 (fm_mem 282 (by decide +kernel) (by decide +kernel)) (fm_mem 83 (by decide +kernel) (by decide +kernel)) (by decide +kernel) (by decide +kernel) (by decide)
theorem in_X0_refuse : Cond.instanceMethod yX0_refuse ∈ fm_G := fm_mem 280 (by decide +kernel) (by decide +kernel)
theorem se_X0_refuse : Cond.selects RX0 yX0_refuse yX0_refuse ∈ fm_G := fm_mem 281 (by decide +kernel) (by decide +kernel)
abbrev m_X5_get : fm_Me := (yX5_get, cX5_get, 2, some .int, RX5)
theorem ce_X5_get : fm_callee m_X5_get 1 := fm_callee_of 1 (fm_mem 278 (by decide +kernel) (by decide +kernel)) (fm_mem 82 (by decide +kernel) (by decide +kernel)) (by decide +kernel) (by decide +kernel) (by decide)
theorem in_X5_get : Cond.instanceMethod yX5_get ∈ fm_G := fm_mem 276 (by decide +kernel) (by decide +kernel)
theorem se_X5_get : Cond.selects RX5 yX5_get yX5_get ∈ fm_G := fm_mem 277 (by decide +kernel) (by decide +kernel)
abbrev m_X0_admit : fm_Me := (yX0_admit, cX0_admit, 4, some .int, RX0)
theorem ce_X0_admit : fm_callee m_X0_admit 2 := fm_callee_of 2 (fm_mem 274 (by decide +kernel) (by decide +kernel)) (fm_mem 83 (by decide +kernel) (by decide +kernel)) (by decide +kernel) (by decide +kernel) (by decide)
theorem in_X0_admit : Cond.instanceMethod yX0_admit ∈ fm_G := fm_mem 272 (by decide +kernel) (by decide +kernel)
theorem se_X0_admit : Cond.selects RX0 yX0_admit yX0_admit ∈ fm_G := fm_mem 273 (by decide +kernel) (by decide +kernel)
abbrev m_X5_isBrother : fm_Me := (yX5_isBrother, cX5_isBrother, 2, some .boolean, RX5)
theorem ce_X5_isBrother : fm_callee m_X5_isBrother 1 := fm_callee_of 1 (fm_mem 322 (by decide +kernel) (by decide +kernel)) (fm_mem 82 (by decide +kernel) (by decide +kernel)) (by decide +kernel) (by decide +kernel) (by decide)
theorem in_X5_isBrother : Cond.instanceMethod yX5_isBrother ∈ fm_G := fm_mem 320 (by decide +kernel) (by decide +kernel)
theorem se_X5_isBrother : Cond.selects RX5 yX5_isBrother yX5_isBrother ∈ fm_G := fm_mem 321 (by decide +kernel) (by decide +kernel)
abbrev m_X5_of : fm_Me := (yX5_of, cX5_of, 4, some .int, RX5)
theorem ce_X5_of : fm_callee m_X5_of 2 := fm_callee_of 2 (fm_mem 331 (by decide +kernel) (by decide +kernel)) (fm_mem 82 (by decide +kernel) (by decide +kernel)) (by decide +kernel) (by decide +kernel) (by decide)
theorem in_X5_of : Cond.instanceMethod yX5_of ∈ fm_G := fm_mem 329 (by decide +kernel) (by decide +kernel)
theorem se_X5_of : Cond.selects RX5 yX5_of yX5_of ∈ fm_G := fm_mem 330 (by decide +kernel) (by decide +kernel)
abbrev m_X5_is : fm_Me := (yX5_is, cX5_is, 3, some .boolean, RX5)
theorem ce_X5_is : fm_callee m_X5_is 2 := fm_callee_of 2 (fm_mem 327 (by decide +kernel) (by decide +kernel)) (fm_mem 82 (by decide +kernel) (by decide +kernel)) (by decide +kernel) (by decide +kernel) (by decide)
theorem in_X5_is : Cond.instanceMethod yX5_is ∈ fm_G := fm_mem 325 (by decide +kernel) (by decide +kernel)
theorem se_X5_is : Cond.selects RX5 yX5_is yX5_is ∈ fm_G := fm_mem 326 (by decide +kernel) (by decide +kernel)
abbrev m_X0_dropVoicesFor : fm_Me := (yX0_dropVoicesFor, cX0_dropVoicesFor, 3, none, RX0)
theorem ce_X0_dropVoicesFor : fm_callee m_X0_dropVoicesFor 1 := fm_callee_of 1 (fm_mem 336 (by decide +kernel) (by decide +kernel)) (fm_mem 83 (by decide +kernel) (by decide +kernel)) (by decide +kernel) (by decide +kernel) (by decide)
theorem in_X0_dropVoicesFor : Cond.instanceMethod yX0_dropVoicesFor ∈ fm_G := fm_mem 335 (by decide +kernel) (by decide +kernel)
theorem se_X0_dropVoicesFor : Cond.selects RX0 yX0_dropVoicesFor yX0_dropVoicesFor ∈ fm_G := fm_mem 2 (by decide +kernel) (by decide +kernel)
abbrev m_X5_howMany : fm_Me := (yX5_howMany, cX5_howMany, 4, some .int, RX5)
theorem ce_X5_howMany : fm_callee m_X5_howMany 1 := fm_callee_of 1 (fm_mem 340 (by decide +kernel) (by decide +kernel)) (fm_mem 82 (by decide +kernel) (by decide +kernel)) (by decide +kernel) (by decide +kernel) (by decide)
theorem in_X5_howMany : Cond.instanceMethod yX5_howMany ∈ fm_G := fm_mem 338 (by decide +kernel) (by decide +kernel)
theorem se_X5_howMany : Cond.selects RX5 yX5_howMany yX5_howMany ∈ fm_G := fm_mem 339 (by decide +kernel) (by decide +kernel)
abbrev m_X0_dropFromLine : fm_Me := (yX0_dropFromLine, cX0_dropFromLine, 2, some .int, RX0)
theorem ce_X0_dropFromLine : fm_callee m_X0_dropFromLine 1 := fm_callee_of 1 (fm_mem 318 (by decide +kernel) (by decide +kernel)) (fm_mem 83 (by decide +kernel) (by decide +kernel)) (by decide +kernel) (by decide +kernel) (by decide)
theorem in_X0_dropFromLine : Cond.instanceMethod yX0_dropFromLine ∈ fm_G := fm_mem 316 (by decide +kernel) (by decide +kernel)
theorem se_X0_dropFromLine : Cond.selects RX0 yX0_dropFromLine yX0_dropFromLine ∈ fm_G := fm_mem 317 (by decide +kernel) (by decide +kernel)
abbrev m_X5_voicesFor : fm_Me := (yX5_voicesFor, cX5_voicesFor, 4, some .int, RX5)
theorem ce_X5_voicesFor : fm_callee m_X5_voicesFor 1 := fm_callee_of 1 (fm_mem 353 (by decide +kernel) (by decide +kernel)) (fm_mem 82 (by decide +kernel) (by decide +kernel)) (by decide +kernel) (by decide +kernel) (by decide)
theorem in_X5_voicesFor : Cond.instanceMethod yX5_voicesFor ∈ fm_G := fm_mem 351 (by decide +kernel) (by decide +kernel)
theorem se_X5_voicesFor : Cond.selects RX5 yX5_voicesFor yX5_voicesFor ∈ fm_G := fm_mem 352 (by decide +kernel) (by decide +kernel)
abbrev m_X0_giveVoice : fm_Me := (yX0_giveVoice, cX0_giveVoice, 3, some .int, RX0)
theorem ce_X0_giveVoice : fm_callee m_X0_giveVoice 2 := fm_callee_of 2 (fm_mem 349 (by decide +kernel) (by decide +kernel)) (fm_mem 83 (by decide +kernel) (by decide +kernel)) (by decide +kernel) (by decide +kernel) (by decide)
theorem in_X0_giveVoice : Cond.instanceMethod yX0_giveVoice ∈ fm_G := fm_mem 347 (by decide +kernel) (by decide +kernel)
theorem se_X0_giveVoice : Cond.selects RX0 yX0_giveVoice yX0_giveVoice ∈ fm_G := fm_mem 348 (by decide +kernel) (by decide +kernel)
abbrev m_X6_isCell : fm_Me := (yX6_isCell, cX6_isCell, 1, some .boolean, RX6)
theorem ce_X6_isCell : fm_callee m_X6_isCell 1 := fm_callee_of 1 (fm_mem 364 (by decide +kernel) (by decide +kernel)) (fm_mem 81 (by decide +kernel) (by decide +kernel)) (by decide +kernel) (by decide +kernel) (by decide)
theorem st_X6_isCell : Cond.static yX6_isCell ∈ fm_G := fm_mem 363 (by decide +kernel) (by decide +kernel)
abbrev m_X3_withPlace : fm_Me := (yX3_withPlace, cX3_withPlace, 8, some .int, RX3)
theorem ce_X3_withPlace : fm_callee m_X3_withPlace 1 := fm_callee_of 1 (fm_mem 374 (by decide +kernel) (by decide +kernel)) (fm_mem 84 (by decide +kernel) (by decide +kernel)) (by decide +kernel) (by decide +kernel) (by decide)
theorem in_X3_withPlace : Cond.instanceMethod yX3_withPlace ∈ fm_G := fm_mem 373 (by decide +kernel) (by decide +kernel)
theorem se_X3_withPlace : Cond.selects RX3 yX3_withPlace yX3_withPlace ∈ fm_G := fm_mem 3 (by decide +kernel) (by decide +kernel)
abbrev m_X3_byVoices : fm_Me := (yX3_byVoices, cX3_byVoices, 5, some .int, RX3)
theorem ce_X3_byVoices : fm_callee m_X3_byVoices 2 := fm_callee_of 2 (fm_mem 368 (by decide +kernel) (by decide +kernel)) (fm_mem 84 (by decide +kernel) (by decide +kernel)) (by decide +kernel) (by decide +kernel) (by decide)
theorem in_X3_byVoices : Cond.instanceMethod yX3_byVoices ∈ fm_G := fm_mem 366 (by decide +kernel) (by decide +kernel)
theorem se_X3_byVoices : Cond.selects RX3 yX3_byVoices yX3_byVoices ∈ fm_G := fm_mem 367 (by decide +kernel) (by decide +kernel)
abbrev m_X0_fillCell : fm_Me := (yX0_fillCell, cX0_fillCell, 3, some .int, RX0)
theorem ce_X0_fillCell : fm_callee m_X0_fillCell 1 := fm_callee_of 1 (fm_mem 361 (by decide +kernel) (by decide +kernel)) (fm_mem 83 (by decide +kernel) (by decide +kernel)) (by decide +kernel) (by decide +kernel) (by decide)
theorem in_X0_fillCell : Cond.instanceMethod yX0_fillCell ∈ fm_G := fm_mem 359 (by decide +kernel) (by decide +kernel)
theorem se_X0_fillCell : Cond.selects RX0 yX0_fillCell yX0_fillCell ∈ fm_G := fm_mem 360 (by decide +kernel) (by decide +kernel)
abbrev m_X0_moveOut : fm_Me := (yX0_moveOut, cX0_moveOut, 3, none, RX0)
theorem ce_X0_moveOut : fm_callee m_X0_moveOut 2 := fm_callee_of 2 (fm_mem 386 (by decide +kernel) (by decide +kernel)) (fm_mem 83 (by decide +kernel) (by decide +kernel)) (by decide +kernel) (by decide +kernel) (by decide)
theorem in_X0_moveOut : Cond.instanceMethod yX0_moveOut ∈ fm_G := fm_mem 385 (by decide +kernel) (by decide +kernel)
theorem se_X0_moveOut : Cond.selects RX0 yX0_moveOut yX0_moveOut ∈ fm_G := fm_mem 4 (by decide +kernel) (by decide +kernel)
abbrev m_X0_emptyCell : fm_Me := (yX0_emptyCell, cX0_emptyCell, 3, some .int, RX0)
theorem ce_X0_emptyCell : fm_callee m_X0_emptyCell 1 := fm_callee_of 1 (fm_mem 382 (by decide +kernel) (by decide +kernel)) (fm_mem 83 (by decide +kernel) (by decide +kernel)) (by decide +kernel) (by decide +kernel) (by decide)
theorem in_X0_emptyCell : Cond.instanceMethod yX0_emptyCell ∈ fm_G := fm_mem 380 (by decide +kernel) (by decide +kernel)
theorem se_X0_emptyCell : Cond.selects RX0 yX0_emptyCell yX0_emptyCell ∈ fm_G := fm_mem 381 (by decide +kernel) (by decide +kernel)
abbrev m_X5_pittanceIn : fm_Me := (yX5_pittanceIn, cX5_pittanceIn, 2, some .int, RX5)
theorem ce_X5_pittanceIn : fm_callee m_X5_pittanceIn 1 := fm_callee_of 1 (fm_mem 398 (by decide +kernel) (by decide +kernel)) (fm_mem 82 (by decide +kernel) (by decide +kernel)) (by decide +kernel) (by decide +kernel) (by decide)
theorem in_X5_pittanceIn : Cond.instanceMethod yX5_pittanceIn ∈ fm_G := fm_mem 396 (by decide +kernel) (by decide +kernel)
theorem se_X5_pittanceIn : Cond.selects RX5 yX5_pittanceIn yX5_pittanceIn ∈ fm_G := fm_mem 397 (by decide +kernel) (by decide +kernel)
abbrev m_X5_feastsTold : fm_Me := (yX5_feastsTold, cX5_feastsTold, 3, some .int, RX5)
theorem ce_X5_feastsTold : fm_callee m_X5_feastsTold 0 := fm_callee_of 0 (fm_mem 402 (by decide +kernel) (by decide +kernel)) (fm_mem 82 (by decide +kernel) (by decide +kernel)) (by decide +kernel) (by decide +kernel) (by decide)
theorem in_X5_feastsTold : Cond.instanceMethod yX5_feastsTold ∈ fm_G := fm_mem 400 (by decide +kernel) (by decide +kernel)
theorem se_X5_feastsTold : Cond.selects RX5 yX5_feastsTold yX5_feastsTold ∈ fm_G := fm_mem 401 (by decide +kernel) (by decide +kernel)
abbrev m_X0_setFeast : fm_Me := (yX0_setFeast, cX0_setFeast, 3, some .int, RX0)
theorem ce_X0_setFeast : fm_callee m_X0_setFeast 2 := fm_callee_of 2 (fm_mem 394 (by decide +kernel) (by decide +kernel)) (fm_mem 83 (by decide +kernel) (by decide +kernel)) (by decide +kernel) (by decide +kernel) (by decide)
theorem in_X0_setFeast : Cond.instanceMethod yX0_setFeast ∈ fm_G := fm_mem 392 (by decide +kernel) (by decide +kernel)
theorem se_X0_setFeast : Cond.selects RX0 yX0_setFeast yX0_setFeast ∈ fm_G := fm_mem 393 (by decide +kernel) (by decide +kernel)
abbrev m_X6_isRule : fm_Me := (yX6_isRule, cX6_isRule, 1, some .boolean, RX6)
theorem ce_X6_isRule : fm_callee m_X6_isRule 1 := fm_callee_of 1 (fm_mem 414 (by decide +kernel) (by decide +kernel)) (fm_mem 81 (by decide +kernel) (by decide +kernel)) (by decide +kernel) (by decide +kernel) (by decide)
theorem st_X6_isRule : Cond.static yX6_isRule ∈ fm_G := fm_mem 413 (by decide +kernel) (by decide +kernel)
abbrev m_X0_breakRule : fm_Me := (yX0_breakRule, cX0_breakRule, 4, some .int, RX0)
theorem ce_X0_breakRule : fm_callee m_X0_breakRule 2 := fm_callee_of 2 (fm_mem 411 (by decide +kernel) (by decide +kernel)) (fm_mem 83 (by decide +kernel) (by decide +kernel)) (by decide +kernel) (by decide +kernel) (by decide)
theorem in_X0_breakRule : Cond.instanceMethod yX0_breakRule ∈ fm_G := fm_mem 409 (by decide +kernel) (by decide +kernel)
theorem se_X0_breakRule : Cond.selects RX0 yX0_breakRule yX0_breakRule ∈ fm_G := fm_mem 410 (by decide +kernel) (by decide +kernel)
abbrev m_X0_endBan : fm_Me := (yX0_endBan, cX0_endBan, 3, some .int, RX0)
theorem ce_X0_endBan : fm_callee m_X0_endBan 1 := fm_callee_of 1 (fm_mem 422 (by decide +kernel) (by decide +kernel)) (fm_mem 83 (by decide +kernel) (by decide +kernel)) (by decide +kernel) (by decide +kernel) (by decide)
theorem in_X0_endBan : Cond.instanceMethod yX0_endBan ∈ fm_G := fm_mem 420 (by decide +kernel) (by decide +kernel)
theorem se_X0_endBan : Cond.selects RX0 yX0_endBan yX0_endBan ∈ fm_G := fm_mem 421 (by decide +kernel) (by decide +kernel)
abbrev m_X5_takeIn : fm_Me := (yX5_takeIn, cX5_takeIn, 3, none, RX5)
theorem ce_X5_takeIn : fm_callee m_X5_takeIn 1 := fm_callee_of 1 (fm_mem 434 (by decide +kernel) (by decide +kernel)) (fm_mem 82 (by decide +kernel) (by decide +kernel)) (by decide +kernel) (by decide +kernel) (by decide)
theorem in_X5_takeIn : Cond.instanceMethod yX5_takeIn ∈ fm_G := fm_mem 432 (by decide +kernel) (by decide +kernel)
theorem se_X5_takeIn : Cond.selects RX5 yX5_takeIn yX5_takeIn ∈ fm_G := fm_mem 433 (by decide +kernel) (by decide +kernel)
abbrev m_X0_takeGift : fm_Me := (yX0_takeGift, cX0_takeGift, 2, some .int, RX0)
theorem ce_X0_takeGift : fm_callee m_X0_takeGift 1 := fm_callee_of 1 (fm_mem 430 (by decide +kernel) (by decide +kernel)) (fm_mem 83 (by decide +kernel) (by decide +kernel)) (by decide +kernel) (by decide +kernel) (by decide)
theorem in_X0_takeGift : Cond.instanceMethod yX0_takeGift ∈ fm_G := fm_mem 428 (by decide +kernel) (by decide +kernel)
theorem se_X0_takeGift : Cond.selects RX0 yX0_takeGift yX0_takeGift ∈ fm_G := fm_mem 429 (by decide +kernel) (by decide +kernel)
abbrev m_X5_isEntitled : fm_Me := (yX5_isEntitled, cX5_isEntitled, 2, some .boolean, RX5)
theorem ce_X5_isEntitled : fm_callee m_X5_isEntitled 1 := fm_callee_of 1 (fm_mem 454 (by decide +kernel) (by decide +kernel)) (fm_mem 82 (by decide +kernel) (by decide +kernel)) (by decide +kernel) (by decide +kernel) (by decide)
theorem in_X5_isEntitled : Cond.instanceMethod yX5_isEntitled ∈ fm_G := fm_mem 452 (by decide +kernel) (by decide +kernel)
theorem se_X5_isEntitled : Cond.selects RX5 yX5_isEntitled yX5_isEntitled ∈ fm_G := fm_mem 453 (by decide +kernel) (by decide +kernel)
abbrev m_X5_entitledMany : fm_Me := (yX5_entitledMany, cX5_entitledMany, 3, some .int, RX5)
theorem ce_X5_entitledMany : fm_callee m_X5_entitledMany 0 := fm_callee_of 0 (fm_mem 450 (by decide +kernel) (by decide +kernel)) (fm_mem 82 (by decide +kernel) (by decide +kernel)) (by decide +kernel) (by decide +kernel) (by decide)
theorem in_X5_entitledMany : Cond.instanceMethod yX5_entitledMany ∈ fm_G := fm_mem 448 (by decide +kernel) (by decide +kernel)
theorem se_X5_entitledMany : Cond.selects RX5 yX5_entitledMany yX5_entitledMany ∈ fm_G := fm_mem 449 (by decide +kernel) (by decide +kernel)
abbrev m_X0_payFeast : fm_Me := (yX0_payFeast, cX0_payFeast, 5, none, RX0)
theorem ce_X0_payFeast : fm_callee m_X0_payFeast 2 := fm_callee_of 2 (fm_mem 458 (by decide +kernel) (by decide +kernel)) (fm_mem 83 (by decide +kernel) (by decide +kernel)) (by decide +kernel) (by decide +kernel) (by decide)
theorem in_X0_payFeast : Cond.instanceMethod yX0_payFeast ∈ fm_G := fm_mem 457 (by decide +kernel) (by decide +kernel)
theorem se_X0_payFeast : Cond.selects RX0 yX0_payFeast yX0_payFeast ∈ fm_G := fm_mem 5 (by decide +kernel) (by decide +kernel)
abbrev m_X0_shortenBans : fm_Me := (yX0_shortenBans, cX0_shortenBans, 2, none, RX0)
theorem ce_X0_shortenBans : fm_callee m_X0_shortenBans 0 := fm_callee_of 0 (fm_mem 464 (by decide +kernel) (by decide +kernel)) (fm_mem 83 (by decide +kernel) (by decide +kernel)) (by decide +kernel) (by decide +kernel) (by decide)
theorem in_X0_shortenBans : Cond.instanceMethod yX0_shortenBans ∈ fm_G := fm_mem 463 (by decide +kernel) (by decide +kernel)
theorem se_X0_shortenBans : Cond.selects RX0 yX0_shortenBans yX0_shortenBans ∈ fm_G := fm_mem 6 (by decide +kernel) (by decide +kernel)
abbrev m_X0_beginYear : fm_Me := (yX0_beginYear, cX0_beginYear, 3, none, RX0)
theorem ce_X0_beginYear : fm_callee m_X0_beginYear 0 := fm_callee_of 0 (fm_mem 468 (by decide +kernel) (by decide +kernel)) (fm_mem 83 (by decide +kernel) (by decide +kernel)) (by decide +kernel) (by decide +kernel) (by decide)
theorem in_X0_beginYear : Cond.instanceMethod yX0_beginYear ∈ fm_G := fm_mem 467 (by decide +kernel) (by decide +kernel)
theorem se_X0_beginYear : Cond.selects RX0 yX0_beginYear yX0_beginYear ∈ fm_G := fm_mem 7 (by decide +kernel) (by decide +kernel)
abbrev m_X3_byGown : fm_Me := (yX3_byGown, cX3_byGown, 5, some .int, RX3)
theorem ce_X3_byGown : fm_callee m_X3_byGown 2 := fm_callee_of 2 (fm_mem 476 (by decide +kernel) (by decide +kernel)) (fm_mem 84 (by decide +kernel) (by decide +kernel)) (by decide +kernel) (by decide +kernel) (by decide)
theorem in_X3_byGown : Cond.instanceMethod yX3_byGown ∈ fm_G := fm_mem 474 (by decide +kernel) (by decide +kernel)
theorem se_X3_byGown : Cond.selects RX3 yX3_byGown yX3_byGown ∈ fm_G := fm_mem 475 (by decide +kernel) (by decide +kernel)
abbrev m_X0_buyGowns : fm_Me := (yX0_buyGowns, cX0_buyGowns, 4, none, RX0)
theorem ce_X0_buyGowns : fm_callee m_X0_buyGowns 0 := fm_callee_of 0 (fm_mem 472 (by decide +kernel) (by decide +kernel)) (fm_mem 83 (by decide +kernel) (by decide +kernel)) (by decide +kernel) (by decide +kernel) (by decide)
theorem in_X0_buyGowns : Cond.instanceMethod yX0_buyGowns ∈ fm_G := fm_mem 471 (by decide +kernel) (by decide +kernel)
theorem se_X0_buyGowns : Cond.selects RX0 yX0_buyGowns yX0_buyGowns ∈ fm_G := fm_mem 8 (by decide +kernel) (by decide +kernel)
abbrev m_X0_after : fm_Me := (yX0_after, cX0_after, 3, some (.object "PittanceHouse$State"), RX0)
theorem ce_X0_after : fm_callee m_X0_after 1 := fm_callee_of 1 (fm_mem 446 (by decide +kernel) (by decide +kernel)) (fm_mem 83 (by decide +kernel) (by decide +kernel)) (by decide +kernel) (by decide +kernel) (by decide)
theorem in_X0_after : Cond.instanceMethod yX0_after ∈ fm_G := fm_mem 444 (by decide +kernel) (by decide +kernel)
theorem se_X0_after : Cond.selects RX0 yX0_after yX0_after ∈ fm_G := fm_mem 445 (by decide +kernel) (by decide +kernel)
abbrev m_X0_spendWeeks : fm_Me := (yX0_spendWeeks, cX0_spendWeeks, 3, some .int, RX0)
theorem ce_X0_spendWeeks : fm_callee m_X0_spendWeeks 1 := fm_callee_of 1 (fm_mem 442 (by decide +kernel) (by decide +kernel)) (fm_mem 83 (by decide +kernel) (by decide +kernel)) (by decide +kernel) (by decide +kernel) (by decide)
theorem in_X0_spendWeeks : Cond.instanceMethod yX0_spendWeeks ∈ fm_G := fm_mem 440 (by decide +kernel) (by decide +kernel)
theorem se_X0_spendWeeks : Cond.selects RX0 yX0_spendWeeks yX0_spendWeeks ∈ fm_G := fm_mem 441 (by decide +kernel) (by decide +kernel)
abbrev m_X0_perform : fm_Me := (yX0_perform, cX0_perform, 4, some .int, RX0)
theorem ce_X0_perform : fm_callee m_X0_perform 3 := fm_callee_of 3 (fm_mem 693 (by decide +kernel) (by decide +kernel)) (fm_mem 83 (by decide +kernel) (by decide +kernel)) (by decide +kernel) (by decide +kernel) (by decide)
theorem in_X0_perform : Cond.instanceMethod yX0_perform ∈ fm_G := fm_mem 691 (by decide +kernel) (by decide +kernel)
theorem se_X0_perform : Cond.selects RX0 yX0_perform yX0_perform ∈ fm_G := fm_mem 692 (by decide +kernel) (by decide +kernel)
abbrev m_X1_init : fm_Me := (yX1_init, cX1_init, 1, none, RX1)
theorem ce_X1_init : fm_callee m_X1_init 0 := fm_callee_of 0 (fm_mem 159 (by decide +kernel) (by decide +kernel)) (fm_mem 85 (by decide +kernel) (by decide +kernel)) (by decide +kernel) (by decide +kernel) (by decide)
theorem in_X1_init : Cond.instanceMethod yX1_init ∈ fm_G := fm_mem 158 (by decide +kernel) (by decide +kernel)
abbrev m_X1_size : fm_Me := (yX1_size, cX1_size, 1, some .int, RX1)
theorem ce_X1_size : fm_callee m_X1_size 0 := fm_callee_of 0 (fm_mem 747 (by decide +kernel) (by decide +kernel)) (fm_mem 85 (by decide +kernel) (by decide +kernel)) (by decide +kernel) (by decide +kernel) (by decide)
theorem in_X1_size : Cond.instanceMethod yX1_size ∈ fm_G := fm_mem 745 (by decide +kernel) (by decide +kernel)
theorem se_X1_size : Cond.selects RX1 yX1_size yX1_size ∈ fm_G := fm_mem 746 (by decide +kernel) (by decide +kernel)
abbrev m_X5_copyTo : fm_Me := (yX5_copyTo, cX5_copyTo, 3, none, RX5)
theorem ce_X5_copyTo : fm_callee m_X5_copyTo 2 := fm_callee_of 2 (fm_mem 296 (by decide +kernel) (by decide +kernel)) (fm_mem 82 (by decide +kernel) (by decide +kernel)) (by decide +kernel) (by decide +kernel) (by decide)
theorem in_X5_copyTo : Cond.instanceMethod yX5_copyTo ∈ fm_G := fm_mem 294 (by decide +kernel) (by decide +kernel)
theorem se_X5_copyTo : Cond.selects RX5 yX5_copyTo yX5_copyTo ∈ fm_G := fm_mem 295 (by decide +kernel) (by decide +kernel)
abbrev m_X1_keep : fm_Me := (yX1_keep, cX1_keep, 2, none, RX1)
theorem ce_X1_keep : fm_callee m_X1_keep 1 := fm_callee_of 1 (fm_mem 292 (by decide +kernel) (by decide +kernel)) (fm_mem 85 (by decide +kernel) (by decide +kernel)) (by decide +kernel) (by decide +kernel) (by decide)
theorem in_X1_keep : Cond.instanceMethod yX1_keep ∈ fm_G := fm_mem 290 (by decide +kernel) (by decide +kernel)
theorem se_X1_keep : Cond.selects RX1 yX1_keep yX1_keep ∈ fm_G := fm_mem 291 (by decide +kernel) (by decide +kernel)
abbrev m_X5_copyBack : fm_Me := (yX5_copyBack, cX5_copyBack, 3, none, RX5)
theorem ce_X5_copyBack : fm_callee m_X5_copyBack 2 := fm_callee_of 2 (fm_mem 776 (by decide +kernel) (by decide +kernel)) (fm_mem 82 (by decide +kernel) (by decide +kernel)) (by decide +kernel) (by decide +kernel) (by decide)
theorem in_X5_copyBack : Cond.instanceMethod yX5_copyBack ∈ fm_G := fm_mem 774 (by decide +kernel) (by decide +kernel)
theorem se_X5_copyBack : Cond.selects RX5 yX5_copyBack yX5_copyBack ∈ fm_G := fm_mem 775 (by decide +kernel) (by decide +kernel)
abbrev m_X1_giveBack : fm_Me := (yX1_giveBack, cX1_giveBack, 2, some .boolean, RX1)
theorem ce_X1_giveBack : fm_callee m_X1_giveBack 1 := fm_callee_of 1 (fm_mem 772 (by decide +kernel) (by decide +kernel)) (fm_mem 85 (by decide +kernel) (by decide +kernel)) (by decide +kernel) (by decide +kernel) (by decide)
theorem in_X1_giveBack : Cond.instanceMethod yX1_giveBack ∈ fm_G := fm_mem 770 (by decide +kernel) (by decide +kernel)
theorem se_X1_giveBack : Cond.selects RX1 yX1_giveBack yX1_giveBack ∈ fm_G := fm_mem 771 (by decide +kernel) (by decide +kernel)
abbrev m_X1_forget : fm_Me := (yX1_forget, cX1_forget, 1, none, RX1)
theorem ce_X1_forget : fm_callee m_X1_forget 0 := fm_callee_of 0 (fm_mem 788 (by decide +kernel) (by decide +kernel)) (fm_mem 85 (by decide +kernel) (by decide +kernel)) (by decide +kernel) (by decide +kernel) (by decide)
theorem in_X1_forget : Cond.instanceMethod yX1_forget ∈ fm_G := fm_mem 786 (by decide +kernel) (by decide +kernel)
theorem se_X1_forget : Cond.selects RX1 yX1_forget yX1_forget ∈ fm_G := fm_mem 787 (by decide +kernel) (by decide +kernel)
abbrev m_X2_init : fm_Me := (yX2_init, cX2_init, 1, none, RX2)
theorem ce_X2_init : fm_callee m_X2_init 0 := fm_callee_of 0 (fm_mem 175 (by decide +kernel) (by decide +kernel)) (fm_mem 86 (by decide +kernel) (by decide +kernel)) (by decide +kernel) (by decide +kernel) (by decide)
theorem in_X2_init : Cond.instanceMethod yX2_init ∈ fm_G := fm_mem 174 (by decide +kernel) (by decide +kernel)
abbrev m_X2_size : fm_Me := (yX2_size, cX2_size, 1, some .int, RX2)
theorem ce_X2_size : fm_callee m_X2_size 0 := fm_callee_of 0 (fm_mem 677 (by decide +kernel) (by decide +kernel)) (fm_mem 86 (by decide +kernel) (by decide +kernel)) (by decide +kernel) (by decide +kernel) (by decide)
theorem in_X2_size : Cond.instanceMethod yX2_size ∈ fm_G := fm_mem 675 (by decide +kernel) (by decide +kernel)
theorem se_X2_size : Cond.selects RX2 yX2_size yX2_size ∈ fm_G := fm_mem 676 (by decide +kernel) (by decide +kernel)
abbrev m_X2_kindOf : fm_Me := (yX2_kindOf, cX2_kindOf, 2, some .int, RX2)
theorem ce_X2_kindOf : fm_callee m_X2_kindOf 1 := fm_callee_of 1 (fm_mem 681 (by decide +kernel) (by decide +kernel)) (fm_mem 86 (by decide +kernel) (by decide +kernel)) (by decide +kernel) (by decide +kernel) (by decide)
theorem in_X2_kindOf : Cond.instanceMethod yX2_kindOf ∈ fm_G := fm_mem 679 (by decide +kernel) (by decide +kernel)
theorem se_X2_kindOf : Cond.selects RX2 yX2_kindOf yX2_kindOf ∈ fm_G := fm_mem 680 (by decide +kernel) (by decide +kernel)
abbrev m_X2_firstOf : fm_Me := (yX2_firstOf, cX2_firstOf, 2, some .int, RX2)
theorem ce_X2_firstOf : fm_callee m_X2_firstOf 1 := fm_callee_of 1 (fm_mem 685 (by decide +kernel) (by decide +kernel)) (fm_mem 86 (by decide +kernel) (by decide +kernel)) (by decide +kernel) (by decide +kernel) (by decide)
theorem in_X2_firstOf : Cond.instanceMethod yX2_firstOf ∈ fm_G := fm_mem 683 (by decide +kernel) (by decide +kernel)
theorem se_X2_firstOf : Cond.selects RX2 yX2_firstOf yX2_firstOf ∈ fm_G := fm_mem 684 (by decide +kernel) (by decide +kernel)
abbrev m_X2_secondOf : fm_Me := (yX2_secondOf, cX2_secondOf, 2, some .int, RX2)
theorem ce_X2_secondOf : fm_callee m_X2_secondOf 1 := fm_callee_of 1 (fm_mem 689 (by decide +kernel) (by decide +kernel)) (fm_mem 86 (by decide +kernel) (by decide +kernel)) (by decide +kernel) (by decide +kernel) (by decide)
theorem in_X2_secondOf : Cond.instanceMethod yX2_secondOf ∈ fm_G := fm_mem 687 (by decide +kernel) (by decide +kernel)
theorem se_X2_secondOf : Cond.selects RX2 yX2_secondOf yX2_secondOf ∈ fm_G := fm_mem 688 (by decide +kernel) (by decide +kernel)
abbrev m_X4_at : fm_Me := (yX4_at, cX4_at, 2, some .int, RX4)
theorem ce_X4_at : fm_callee m_X4_at 1 := fm_callee_of 1 (fm_mem 584 (by decide +kernel) (by decide +kernel)) (fm_mem 87 (by decide +kernel) (by decide +kernel)) (by decide +kernel) (by decide +kernel) (by decide)
theorem in_X4_at : Cond.instanceMethod yX4_at ∈ fm_G := fm_mem 582 (by decide +kernel) (by decide +kernel)
theorem se_X4_at : Cond.selects RX4 yX4_at yX4_at ∈ fm_G := fm_mem 583 (by decide +kernel) (by decide +kernel)
abbrev m_X2_kindWith : fm_Me := (yX2_kindWith, cX2_kindWith, 1, some .int, RX2)
theorem ce_X2_kindWith : fm_callee m_X2_kindWith 1 := fm_callee_of 1 (fm_mem 587 (by decide +kernel) (by decide +kernel)) (fm_mem 86 (by decide +kernel) (by decide +kernel)) (by decide +kernel) (by decide +kernel) (by decide)
theorem st_X2_kindWith : Cond.static yX2_kindWith ∈ fm_G := fm_mem 586 (by decide +kernel) (by decide +kernel)
abbrev m_X2_wordOf : fm_Me := (yX2_wordOf, cX2_wordOf, 1, some (.object "java/lang/String"), RX2)
theorem ce_X2_wordOf : fm_callee m_X2_wordOf 1 := fm_callee_of 1 (fm_mem 590 (by decide +kernel) (by decide +kernel)) (fm_mem 86 (by decide +kernel) (by decide +kernel)) (by decide +kernel) (by decide +kernel) (by decide)
theorem st_X2_wordOf : Cond.static yX2_wordOf ∈ fm_G := fm_mem 589 (by decide +kernel) (by decide +kernel)
abbrev m_X2_readSign : fm_Me := (yX2_readSign, cX2_readSign, 3, some .boolean, RX2)
theorem ce_X2_readSign : fm_callee m_X2_readSign 2 := fm_callee_of 2 (fm_mem 654 (by decide +kernel) (by decide +kernel)) (fm_mem 86 (by decide +kernel) (by decide +kernel)) (by decide +kernel) (by decide +kernel) (by decide)
theorem in_X2_readSign : Cond.instanceMethod yX2_readSign ∈ fm_G := fm_mem 653 (by decide +kernel) (by decide +kernel)
theorem se_X2_readSign : Cond.selects RX2 yX2_readSign yX2_readSign ∈ fm_G := fm_mem 14 (by decide +kernel) (by decide +kernel)
abbrev m_X2_readWord : fm_Me := (yX2_readWord, cX2_readWord, 4, some .boolean, RX2)
theorem ce_X2_readWord : fm_callee m_X2_readWord 2 := fm_callee_of 2 (fm_mem 602 (by decide +kernel) (by decide +kernel)) (fm_mem 86 (by decide +kernel) (by decide +kernel)) (by decide +kernel) (by decide +kernel) (by decide)
theorem in_X2_readWord : Cond.instanceMethod yX2_readWord ∈ fm_G := fm_mem 601 (by decide +kernel) (by decide +kernel)
theorem se_X2_readWord : Cond.selects RX2 yX2_readWord yX2_readWord ∈ fm_G := fm_mem 13 (by decide +kernel) (by decide +kernel)
abbrev m_X2_firstDigits : fm_Me := (yX2_firstDigits, cX2_firstDigits, 1, some .int, RX2)
theorem ce_X2_firstDigits : fm_callee m_X2_firstDigits 1 := fm_callee_of 1 (fm_mem 657 (by decide +kernel) (by decide +kernel)) (fm_mem 86 (by decide +kernel) (by decide +kernel)) (by decide +kernel) (by decide +kernel) (by decide)
theorem st_X2_firstDigits : Cond.static yX2_firstDigits ∈ fm_G := fm_mem 656 (by decide +kernel) (by decide +kernel)
abbrev m_X2_readNumber : fm_Me := (yX2_readNumber, cX2_readNumber, 5, some .boolean, RX2)
theorem ce_X2_readNumber : fm_callee m_X2_readNumber 2 := fm_callee_of 2 (fm_mem 661 (by decide +kernel) (by decide +kernel)) (fm_mem 86 (by decide +kernel) (by decide +kernel)) (by decide +kernel) (by decide +kernel) (by decide)
theorem in_X2_readNumber : Cond.instanceMethod yX2_readNumber ∈ fm_G := fm_mem 660 (by decide +kernel) (by decide +kernel)
theorem se_X2_readNumber : Cond.selects RX2 yX2_readNumber yX2_readNumber ∈ fm_G := fm_mem 15 (by decide +kernel) (by decide +kernel)
abbrev m_X2_secondDigits : fm_Me := (yX2_secondDigits, cX2_secondDigits, 1, some .int, RX2)
theorem ce_X2_secondDigits : fm_callee m_X2_secondDigits 1 := fm_callee_of 1 (fm_mem 664 (by decide +kernel) (by decide +kernel)) (fm_mem 86 (by decide +kernel) (by decide +kernel)) (by decide +kernel) (by decide +kernel) (by decide)
theorem st_X2_secondDigits : Cond.static yX2_secondDigits ∈ fm_G := fm_mem 663 (by decide +kernel) (by decide +kernel)
abbrev m_X2_keep : fm_Me := (yX2_keep, cX2_keep, 4, none, RX2)
theorem ce_X2_keep : fm_callee m_X2_keep 3 := fm_callee_of 3 (fm_mem 668 (by decide +kernel) (by decide +kernel)) (fm_mem 86 (by decide +kernel) (by decide +kernel)) (by decide +kernel) (by decide +kernel) (by decide)
theorem in_X2_keep : Cond.instanceMethod yX2_keep ∈ fm_G := fm_mem 667 (by decide +kernel) (by decide +kernel)
theorem se_X2_keep : Cond.selects RX2 yX2_keep yX2_keep ∈ fm_G := fm_mem 16 (by decide +kernel) (by decide +kernel)
abbrev m_X2_readOrder : fm_Me := (yX2_readOrder, cX2_readOrder, 5, some .boolean, RX2)
theorem ce_X2_readOrder : fm_callee m_X2_readOrder 1 := fm_callee_of 1 (fm_mem 580 (by decide +kernel) (by decide +kernel)) (fm_mem 86 (by decide +kernel) (by decide +kernel)) (by decide +kernel) (by decide +kernel) (by decide)
theorem in_X2_readOrder : Cond.instanceMethod yX2_readOrder ∈ fm_G := fm_mem 579 (by decide +kernel) (by decide +kernel)
theorem se_X2_readOrder : Cond.selects RX2 yX2_readOrder yX2_readOrder ∈ fm_G := fm_mem 12 (by decide +kernel) (by decide +kernel)
abbrev m_X4_size : fm_Me := (yX4_size, cX4_size, 1, some .int, RX4)
theorem ce_X4_size : fm_callee m_X4_size 0 := fm_callee_of 0 (fm_mem 564 (by decide +kernel) (by decide +kernel)) (fm_mem 87 (by decide +kernel) (by decide +kernel)) (by decide +kernel) (by decide +kernel) (by decide)
theorem in_X4_size : Cond.instanceMethod yX4_size ∈ fm_G := fm_mem 562 (by decide +kernel) (by decide +kernel)
theorem se_X4_size : Cond.selects RX4 yX4_size yX4_size ∈ fm_G := fm_mem 563 (by decide +kernel) (by decide +kernel)
abbrev m_X2_read : fm_Me := (yX2_read, cX2_read, 3, some .int, RX2)
theorem ce_X2_read : fm_callee m_X2_read 1 := fm_callee_of 1 (fm_mem 576 (by decide +kernel) (by decide +kernel)) (fm_mem 86 (by decide +kernel) (by decide +kernel)) (by decide +kernel) (by decide +kernel) (by decide)
theorem in_X2_read : Cond.instanceMethod yX2_read ∈ fm_G := fm_mem 574 (by decide +kernel) (by decide +kernel)
theorem se_X2_read : Cond.selects RX2 yX2_read yX2_read ∈ fm_G := fm_mem 575 (by decide +kernel) (by decide +kernel)
abbrev m_X3_byTime : fm_Me := (yX3_byTime, cX3_byTime, 5, some .int, RX3)
theorem ce_X3_byTime : fm_callee m_X3_byTime 2 := fm_callee_of 2 (fm_mem 537 (by decide +kernel) (by decide +kernel)) (fm_mem 84 (by decide +kernel) (by decide +kernel)) (by decide +kernel) (by decide +kernel) (by decide)
theorem in_X3_byTime : Cond.instanceMethod yX3_byTime ∈ fm_G := fm_mem 535 (by decide +kernel) (by decide +kernel)
theorem se_X3_byTime : Cond.selects RX3 yX3_byTime yX3_byTime ∈ fm_G := fm_mem 536 (by decide +kernel) (by decide +kernel)
abbrev m_X4_init : fm_Me := (yX4_init, cX4_init, 2, none, RX4)
theorem ce_X4_init : fm_callee m_X4_init 1 := fm_callee_of 1 (fm_mem 200 (by decide +kernel) (by decide +kernel)) (fm_mem 87 (by decide +kernel) (by decide +kernel)) (by decide +kernel) (by decide +kernel) (by decide)
theorem in_X4_init : Cond.instanceMethod yX4_init ∈ fm_G := fm_mem 199 (by decide +kernel) (by decide +kernel)
abbrev m_X4_clear : fm_Me := (yX4_clear, cX4_clear, 1, none, RX4)
theorem ce_X4_clear : fm_callee m_X4_clear 0 := fm_callee_of 0 (fm_mem 673 (by decide +kernel) (by decide +kernel)) (fm_mem 87 (by decide +kernel) (by decide +kernel)) (by decide +kernel) (by decide +kernel) (by decide)
theorem in_X4_clear : Cond.instanceMethod yX4_clear ∈ fm_G := fm_mem 671 (by decide +kernel) (by decide +kernel)
theorem se_X4_clear : Cond.selects RX4 yX4_clear yX4_clear ∈ fm_G := fm_mem 672 (by decide +kernel) (by decide +kernel)
abbrev m_X4_add : fm_Me := (yX4_add, cX4_add, 2, none, RX4)
theorem ce_X4_add : fm_callee m_X4_add 1 := fm_callee_of 1 (fm_mem 568 (by decide +kernel) (by decide +kernel)) (fm_mem 87 (by decide +kernel) (by decide +kernel)) (by decide +kernel) (by decide +kernel) (by decide)
theorem in_X4_add : Cond.instanceMethod yX4_add ∈ fm_G := fm_mem 566 (by decide +kernel) (by decide +kernel)
theorem se_X4_add : Cond.selects RX4 yX4_add yX4_add ∈ fm_G := fm_mem 567 (by decide +kernel) (by decide +kernel)
abbrev m_X4_addNumber : fm_Me := (yX4_addNumber, cX4_addNumber, 2, none, RX4)
theorem ce_X4_addNumber : fm_callee m_X4_addNumber 1 := fm_callee_of 1 (fm_mem 715 (by decide +kernel) (by decide +kernel)) (fm_mem 87 (by decide +kernel) (by decide +kernel)) (by decide +kernel) (by decide +kernel) (by decide)
theorem in_X4_addNumber : Cond.instanceMethod yX4_addNumber ∈ fm_G := fm_mem 713 (by decide +kernel) (by decide +kernel)
theorem se_X4_addNumber : Cond.selects RX4 yX4_addNumber yX4_addNumber ∈ fm_G := fm_mem 714 (by decide +kernel) (by decide +kernel)
abbrev m_X6_init : fm_Me := (yX6_init, cX6_init, 1, none, RX6)
theorem ce_X6_init : fm_callee m_X6_init 0 := fm_callee_of 0 (fm_mem 99 (by decide +kernel) (by decide +kernel)) (fm_mem 81 (by decide +kernel) (by decide +kernel)) (by decide +kernel) (by decide +kernel) (by decide)
theorem in_X6_init : Cond.instanceMethod yX6_init ∈ fm_G := fm_mem 98 (by decide +kernel) (by decide +kernel)
abbrev m_X6_onTrial : fm_Me := (yX6_onTrial, cX6_onTrial, 1, some (.object "PittanceHouse$Deeds"), RX6)
theorem ce_X6_onTrial : fm_callee m_X6_onTrial 0 := fm_callee_of 0 (fm_mem 256 (by decide +kernel) (by decide +kernel)) (fm_mem 81 (by decide +kernel) (by decide +kernel)) (by decide +kernel) (by decide +kernel) (by decide)
theorem in_X6_onTrial : Cond.instanceMethod yX6_onTrial ∈ fm_G := fm_mem 255 (by decide +kernel) (by decide +kernel)
theorem se_X6_onTrial : Cond.selects RX6 yX6_onTrial yX6_onTrial ∈ fm_G := fm_mem 0 (by decide +kernel) (by decide +kernel)
abbrev m_X6_settle : fm_Me := (yX6_settle, cX6_settle, 2, some .int, RX6)
theorem ce_X6_settle : fm_callee m_X6_settle 1 := fm_callee_of 1 (fm_mem 288 (by decide +kernel) (by decide +kernel)) (fm_mem 81 (by decide +kernel) (by decide +kernel)) (by decide +kernel) (by decide +kernel) (by decide)
theorem in_X6_settle : Cond.instanceMethod yX6_settle ∈ fm_G := fm_mem 287 (by decide +kernel) (by decide +kernel)
theorem se_X6_settle : Cond.selects RX6 yX6_settle yX6_settle ∈ fm_G := fm_mem 1 (by decide +kernel) (by decide +kernel)
abbrev m_X6_come : fm_Me := (yX6_come, cX6_come, 3, some .int, RX6)
theorem ce_X6_come : fm_callee m_X6_come 2 := fm_callee_of 2 (fm_mem 252 (by decide +kernel) (by decide +kernel)) (fm_mem 81 (by decide +kernel) (by decide +kernel)) (by decide +kernel) (by decide +kernel) (by decide)
theorem in_X6_come : Cond.instanceMethod yX6_come ∈ fm_G := fm_mem 250 (by decide +kernel) (by decide +kernel)
theorem se_X6_come : Cond.selects RX6 yX6_come yX6_come ∈ fm_G := fm_mem 251 (by decide +kernel) (by decide +kernel)
abbrev m_X6_withdraw : fm_Me := (yX6_withdraw, cX6_withdraw, 2, some .int, RX6)
theorem ce_X6_withdraw : fm_callee m_X6_withdraw 1 := fm_callee_of 1 (fm_mem 314 (by decide +kernel) (by decide +kernel)) (fm_mem 81 (by decide +kernel) (by decide +kernel)) (by decide +kernel) (by decide +kernel) (by decide)
theorem in_X6_withdraw : Cond.instanceMethod yX6_withdraw ∈ fm_G := fm_mem 312 (by decide +kernel) (by decide +kernel)
theorem se_X6_withdraw : Cond.selects RX6 yX6_withdraw yX6_withdraw ∈ fm_G := fm_mem 313 (by decide +kernel) (by decide +kernel)
abbrev m_X6_voice : fm_Me := (yX6_voice, cX6_voice, 3, some .int, RX6)
theorem ce_X6_voice : fm_callee m_X6_voice 2 := fm_callee_of 2 (fm_mem 345 (by decide +kernel) (by decide +kernel)) (fm_mem 81 (by decide +kernel) (by decide +kernel)) (by decide +kernel) (by decide +kernel) (by decide)
theorem in_X6_voice : Cond.instanceMethod yX6_voice ∈ fm_G := fm_mem 343 (by decide +kernel) (by decide +kernel)
theorem se_X6_voice : Cond.selects RX6 yX6_voice yX6_voice ∈ fm_G := fm_mem 344 (by decide +kernel) (by decide +kernel)
abbrev m_X6_choose : fm_Me := (yX6_choose, cX6_choose, 2, some .int, RX6)
theorem ce_X6_choose : fm_callee m_X6_choose 1 := fm_callee_of 1 (fm_mem 357 (by decide +kernel) (by decide +kernel)) (fm_mem 81 (by decide +kernel) (by decide +kernel)) (by decide +kernel) (by decide +kernel) (by decide)
theorem in_X6_choose : Cond.instanceMethod yX6_choose ∈ fm_G := fm_mem 355 (by decide +kernel) (by decide +kernel)
theorem se_X6_choose : Cond.selects RX6 yX6_choose yX6_choose ∈ fm_G := fm_mem 356 (by decide +kernel) (by decide +kernel)
abbrev m_X6_leave : fm_Me := (yX6_leave, cX6_leave, 2, some .int, RX6)
theorem ce_X6_leave : fm_callee m_X6_leave 1 := fm_callee_of 1 (fm_mem 378 (by decide +kernel) (by decide +kernel)) (fm_mem 81 (by decide +kernel) (by decide +kernel)) (by decide +kernel) (by decide +kernel) (by decide)
theorem in_X6_leave : Cond.instanceMethod yX6_leave ∈ fm_G := fm_mem 376 (by decide +kernel) (by decide +kernel)
theorem se_X6_leave : Cond.selects RX6 yX6_leave yX6_leave ∈ fm_G := fm_mem 377 (by decide +kernel) (by decide +kernel)
abbrev m_X6_feast : fm_Me := (yX6_feast, cX6_feast, 3, some .int, RX6)
theorem ce_X6_feast : fm_callee m_X6_feast 2 := fm_callee_of 2 (fm_mem 390 (by decide +kernel) (by decide +kernel)) (fm_mem 81 (by decide +kernel) (by decide +kernel)) (by decide +kernel) (by decide +kernel) (by decide)
theorem in_X6_feast : Cond.instanceMethod yX6_feast ∈ fm_G := fm_mem 388 (by decide +kernel) (by decide +kernel)
theorem se_X6_feast : Cond.selects RX6 yX6_feast yX6_feast ∈ fm_G := fm_mem 389 (by decide +kernel) (by decide +kernel)
abbrev m_X6_breach : fm_Me := (yX6_breach, cX6_breach, 3, some .int, RX6)
theorem ce_X6_breach : fm_callee m_X6_breach 2 := fm_callee_of 2 (fm_mem 407 (by decide +kernel) (by decide +kernel)) (fm_mem 81 (by decide +kernel) (by decide +kernel)) (by decide +kernel) (by decide +kernel) (by decide)
theorem in_X6_breach : Cond.instanceMethod yX6_breach ∈ fm_G := fm_mem 405 (by decide +kernel) (by decide +kernel)
theorem se_X6_breach : Cond.selects RX6 yX6_breach yX6_breach ∈ fm_G := fm_mem 406 (by decide +kernel) (by decide +kernel)
abbrev m_X6_pardon : fm_Me := (yX6_pardon, cX6_pardon, 2, some .int, RX6)
theorem ce_X6_pardon : fm_callee m_X6_pardon 1 := fm_callee_of 1 (fm_mem 418 (by decide +kernel) (by decide +kernel)) (fm_mem 81 (by decide +kernel) (by decide +kernel)) (by decide +kernel) (by decide +kernel) (by decide)
theorem in_X6_pardon : Cond.instanceMethod yX6_pardon ∈ fm_G := fm_mem 416 (by decide +kernel) (by decide +kernel)
theorem se_X6_pardon : Cond.selects RX6 yX6_pardon yX6_pardon ∈ fm_G := fm_mem 417 (by decide +kernel) (by decide +kernel)
abbrev m_X6_gift : fm_Me := (yX6_gift, cX6_gift, 2, some .int, RX6)
theorem ce_X6_gift : fm_callee m_X6_gift 1 := fm_callee_of 1 (fm_mem 426 (by decide +kernel) (by decide +kernel)) (fm_mem 81 (by decide +kernel) (by decide +kernel)) (by decide +kernel) (by decide +kernel) (by decide)
theorem in_X6_gift : Cond.instanceMethod yX6_gift ∈ fm_G := fm_mem 424 (by decide +kernel) (by decide +kernel)
theorem se_X6_gift : Cond.selects RX6 yX6_gift yX6_gift ∈ fm_G := fm_mem 425 (by decide +kernel) (by decide +kernel)
abbrev m_X6_weeks : fm_Me := (yX6_weeks, cX6_weeks, 2, some .int, RX6)
theorem ce_X6_weeks : fm_callee m_X6_weeks 1 := fm_callee_of 1 (fm_mem 438 (by decide +kernel) (by decide +kernel)) (fm_mem 81 (by decide +kernel) (by decide +kernel)) (by decide +kernel) (by decide +kernel) (by decide)
theorem in_X6_weeks : Cond.instanceMethod yX6_weeks ∈ fm_G := fm_mem 436 (by decide +kernel) (by decide +kernel)
theorem se_X6_weeks : Cond.selects RX6 yX6_weeks yX6_weeks ∈ fm_G := fm_mem 437 (by decide +kernel) (by decide +kernel)
abbrev m_X6_breachesOf : fm_Me := (yX6_breachesOf, cX6_breachesOf, 4, some .int, RX6)
theorem ce_X6_breachesOf : fm_callee m_X6_breachesOf 1 := fm_callee_of 1 (fm_mem 487 (by decide +kernel) (by decide +kernel)) (fm_mem 81 (by decide +kernel) (by decide +kernel)) (by decide +kernel) (by decide +kernel) (by decide)
theorem in_X6_breachesOf : Cond.instanceMethod yX6_breachesOf ∈ fm_G := fm_mem 486 (by decide +kernel) (by decide +kernel)
theorem se_X6_breachesOf : Cond.selects RX6 yX6_breachesOf yX6_breachesOf ∈ fm_G := fm_mem 9 (by decide +kernel) (by decide +kernel)
abbrev m_X6_placeInLine : fm_Me := (yX6_placeInLine, cX6_placeInLine, 4, some .int, RX6)
theorem ce_X6_placeInLine : fm_callee m_X6_placeInLine 1 := fm_callee_of 1 (fm_mem 491 (by decide +kernel) (by decide +kernel)) (fm_mem 81 (by decide +kernel) (by decide +kernel)) (by decide +kernel) (by decide +kernel) (by decide)
theorem in_X6_placeInLine : Cond.instanceMethod yX6_placeInLine ∈ fm_G := fm_mem 490 (by decide +kernel) (by decide +kernel)
theorem se_X6_placeInLine : Cond.selects RX6 yX6_placeInLine yX6_placeInLine ∈ fm_G := fm_mem 10 (by decide +kernel) (by decide +kernel)
abbrev m_X6_brotherOf : fm_Me := (yX6_brotherOf, cX6_brotherOf, 3, some .int, RX6)
theorem ce_X6_brotherOf : fm_callee m_X6_brotherOf 2 := fm_callee_of 2 (fm_mem 480 (by decide +kernel) (by decide +kernel)) (fm_mem 81 (by decide +kernel) (by decide +kernel)) (by decide +kernel) (by decide +kernel) (by decide)
theorem in_X6_brotherOf : Cond.instanceMethod yX6_brotherOf ∈ fm_G := fm_mem 478 (by decide +kernel) (by decide +kernel)
theorem se_X6_brotherOf : Cond.selects RX6 yX6_brotherOf yX6_brotherOf ∈ fm_G := fm_mem 479 (by decide +kernel) (by decide +kernel)
abbrev m_X6_broke : fm_Me := (yX6_broke, cX6_broke, 3, some .int, RX6)
theorem ce_X6_broke : fm_callee m_X6_broke 2 := fm_callee_of 2 (fm_mem 495 (by decide +kernel) (by decide +kernel)) (fm_mem 81 (by decide +kernel) (by decide +kernel)) (by decide +kernel) (by decide +kernel) (by decide)
theorem in_X6_broke : Cond.instanceMethod yX6_broke ∈ fm_G := fm_mem 493 (by decide +kernel) (by decide +kernel)
theorem se_X6_broke : Cond.selects RX6 yX6_broke yX6_broke ∈ fm_G := fm_mem 494 (by decide +kernel) (by decide +kernel)
abbrev m_X6_inCell : fm_Me := (yX6_inCell, cX6_inCell, 2, some .int, RX6)
theorem ce_X6_inCell : fm_callee m_X6_inCell 1 := fm_callee_of 1 (fm_mem 500 (by decide +kernel) (by decide +kernel)) (fm_mem 81 (by decide +kernel) (by decide +kernel)) (by decide +kernel) (by decide +kernel) (by decide)
theorem in_X6_inCell : Cond.instanceMethod yX6_inCell ∈ fm_G := fm_mem 498 (by decide +kernel) (by decide +kernel)
theorem se_X6_inCell : Cond.selects RX6 yX6_inCell yX6_inCell ∈ fm_G := fm_mem 499 (by decide +kernel) (by decide +kernel)
abbrev m_X6_entitled : fm_Me := (yX6_entitled, cX6_entitled, 3, some .int, RX6)
theorem ce_X6_entitled : fm_callee m_X6_entitled 0 := fm_callee_of 0 (fm_mem 506 (by decide +kernel) (by decide +kernel)) (fm_mem 81 (by decide +kernel) (by decide +kernel)) (by decide +kernel) (by decide +kernel) (by decide)
theorem in_X6_entitled : Cond.instanceMethod yX6_entitled ∈ fm_G := fm_mem 504 (by decide +kernel) (by decide +kernel)
theorem se_X6_entitled : Cond.selects RX6 yX6_entitled yX6_entitled ∈ fm_G := fm_mem 505 (by decide +kernel) (by decide +kernel)
abbrev m_X6_entitledAgain : fm_Me := (yX6_entitledAgain, cX6_entitledAgain, 4, some .int, RX6)
theorem ce_X6_entitledAgain : fm_callee m_X6_entitledAgain 0 := fm_callee_of 0 (fm_mem 511 (by decide +kernel) (by decide +kernel)) (fm_mem 81 (by decide +kernel) (by decide +kernel)) (by decide +kernel) (by decide +kernel) (by decide)
theorem in_X6_entitledAgain : Cond.instanceMethod yX6_entitledAgain ∈ fm_G := fm_mem 509 (by decide +kernel) (by decide +kernel)
theorem se_X6_entitledAgain : Cond.selects RX6 yX6_entitledAgain yX6_entitledAgain ∈ fm_G := fm_mem 510 (by decide +kernel) (by decide +kernel)
abbrev m_X6_voices : fm_Me := (yX6_voices, cX6_voices, 2, some .int, RX6)
theorem ce_X6_voices : fm_callee m_X6_voices 1 := fm_callee_of 1 (fm_mem 515 (by decide +kernel) (by decide +kernel)) (fm_mem 81 (by decide +kernel) (by decide +kernel)) (by decide +kernel) (by decide +kernel) (by decide)
theorem in_X6_voices : Cond.instanceMethod yX6_voices ∈ fm_G := fm_mem 513 (by decide +kernel) (by decide +kernel)
theorem se_X6_voices : Cond.selects RX6 yX6_voices yX6_voices ∈ fm_G := fm_mem 514 (by decide +kernel) (by decide +kernel)
abbrev m_X6_tallyVoices : fm_Me := (yX6_tallyVoices, cX6_tallyVoices, 4, none, RX6)
theorem ce_X6_tallyVoices : fm_callee m_X6_tallyVoices 0 := fm_callee_of 0 (fm_mem 524 (by decide +kernel) (by decide +kernel)) (fm_mem 81 (by decide +kernel) (by decide +kernel)) (by decide +kernel) (by decide +kernel) (by decide)
theorem in_X6_tallyVoices : Cond.instanceMethod yX6_tallyVoices ∈ fm_G := fm_mem 523 (by decide +kernel) (by decide +kernel)
theorem se_X6_tallyVoices : Cond.selects RX6 yX6_tallyVoices yX6_tallyVoices ∈ fm_G := fm_mem 11 (by decide +kernel) (by decide +kernel)
abbrev m_X6_voicesAgain : fm_Me := (yX6_voicesAgain, cX6_voicesAgain, 2, some .int, RX6)
theorem ce_X6_voicesAgain : fm_callee m_X6_voicesAgain 1 := fm_callee_of 1 (fm_mem 520 (by decide +kernel) (by decide +kernel)) (fm_mem 81 (by decide +kernel) (by decide +kernel)) (by decide +kernel) (by decide +kernel) (by decide)
theorem in_X6_voicesAgain : Cond.instanceMethod yX6_voicesAgain ∈ fm_G := fm_mem 518 (by decide +kernel) (by decide +kernel)
theorem se_X6_voicesAgain : Cond.selects RX6 yX6_voicesAgain yX6_voicesAgain ∈ fm_G := fm_mem 519 (by decide +kernel) (by decide +kernel)
abbrev m_X6_ranked : fm_Me := (yX6_ranked, cX6_ranked, 2, some .int, RX6)
theorem ce_X6_ranked : fm_callee m_X6_ranked 1 := fm_callee_of 1 (fm_mem 528 (by decide +kernel) (by decide +kernel)) (fm_mem 81 (by decide +kernel) (by decide +kernel)) (by decide +kernel) (by decide +kernel) (by decide)
theorem in_X6_ranked : Cond.instanceMethod yX6_ranked ∈ fm_G := fm_mem 526 (by decide +kernel) (by decide +kernel)
theorem se_X6_ranked : Cond.selects RX6 yX6_ranked yX6_ranked ∈ fm_G := fm_mem 527 (by decide +kernel) (by decide +kernel)
abbrev m_X6_senior : fm_Me := (yX6_senior, cX6_senior, 2, some .int, RX6)
theorem ce_X6_senior : fm_callee m_X6_senior 1 := fm_callee_of 1 (fm_mem 533 (by decide +kernel) (by decide +kernel)) (fm_mem 81 (by decide +kernel) (by decide +kernel)) (by decide +kernel) (by decide +kernel) (by decide)
theorem in_X6_senior : Cond.instanceMethod yX6_senior ∈ fm_G := fm_mem 531 (by decide +kernel) (by decide +kernel)
theorem se_X6_senior : Cond.selects RX6 yX6_senior yX6_senior ∈ fm_G := fm_mem 532 (by decide +kernel) (by decide +kernel)
abbrev m_X6_shabby : fm_Me := (yX6_shabby, cX6_shabby, 2, some .int, RX6)
theorem ce_X6_shabby : fm_callee m_X6_shabby 1 := fm_callee_of 1 (fm_mem 541 (by decide +kernel) (by decide +kernel)) (fm_mem 81 (by decide +kernel) (by decide +kernel)) (by decide +kernel) (by decide +kernel) (by decide)
theorem in_X6_shabby : Cond.instanceMethod yX6_shabby ∈ fm_G := fm_mem 539 (by decide +kernel) (by decide +kernel)
theorem se_X6_shabby : Cond.selects RX6 yX6_shabby yX6_shabby ∈ fm_G := fm_mem 540 (by decide +kernel) (by decide +kernel)
abbrev m_X6_nextFeast : fm_Me := (yX6_nextFeast, cX6_nextFeast, 2, some .int, RX6)
theorem ce_X6_nextFeast : fm_callee m_X6_nextFeast 0 := fm_callee_of 0 (fm_mem 546 (by decide +kernel) (by decide +kernel)) (fm_mem 81 (by decide +kernel) (by decide +kernel)) (by decide +kernel) (by decide +kernel) (by decide)
theorem in_X6_nextFeast : Cond.instanceMethod yX6_nextFeast ∈ fm_G := fm_mem 544 (by decide +kernel) (by decide +kernel)
theorem se_X6_nextFeast : Cond.selects RX6 yX6_nextFeast yX6_nextFeast ∈ fm_G := fm_mem 545 (by decide +kernel) (by decide +kernel)
abbrev m_X6_wouldGet : fm_Me := (yX6_wouldGet, cX6_wouldGet, 3, some .int, RX6)
theorem ce_X6_wouldGet : fm_callee m_X6_wouldGet 2 := fm_callee_of 2 (fm_mem 551 (by decide +kernel) (by decide +kernel)) (fm_mem 81 (by decide +kernel) (by decide +kernel)) (by decide +kernel) (by decide +kernel) (by decide)
theorem in_X6_wouldGet : Cond.instanceMethod yX6_wouldGet ∈ fm_G := fm_mem 549 (by decide +kernel) (by decide +kernel)
theorem se_X6_wouldGet : Cond.selects RX6 yX6_wouldGet yX6_wouldGet ∈ fm_G := fm_mem 550 (by decide +kernel) (by decide +kernel)
abbrev m_X6_chestIn : fm_Me := (yX6_chestIn, cX6_chestIn, 2, some .int, RX6)
theorem ce_X6_chestIn : fm_callee m_X6_chestIn 1 := fm_callee_of 1 (fm_mem 556 (by decide +kernel) (by decide +kernel)) (fm_mem 81 (by decide +kernel) (by decide +kernel)) (by decide +kernel) (by decide +kernel) (by decide)
theorem in_X6_chestIn : Cond.instanceMethod yX6_chestIn ∈ fm_G := fm_mem 554 (by decide +kernel) (by decide +kernel)
theorem se_X6_chestIn : Cond.selects RX6 yX6_chestIn yX6_chestIn ∈ fm_G := fm_mem 555 (by decide +kernel) (by decide +kernel)
abbrev m_X6_append : fm_Me := (yX6_append, cX6_append, 2, some .int, RX6)
theorem ce_X6_append : fm_callee m_X6_append 1 := fm_callee_of 1 (fm_mem 560 (by decide +kernel) (by decide +kernel)) (fm_mem 81 (by decide +kernel) (by decide +kernel)) (by decide +kernel) (by decide +kernel) (by decide)
theorem in_X6_append : Cond.instanceMethod yX6_append ∈ fm_G := fm_mem 558 (by decide +kernel) (by decide +kernel)
theorem se_X6_append : Cond.selects RX6 yX6_append yX6_append ∈ fm_G := fm_mem 559 (by decide +kernel) (by decide +kernel)
abbrev m_X6_run : fm_Me := (yX6_run, cX6_run, 4, some .int, RX6)
theorem ce_X6_run : fm_callee m_X6_run 0 := fm_callee_of 0 (fm_mem 572 (by decide +kernel) (by decide +kernel)) (fm_mem 81 (by decide +kernel) (by decide +kernel)) (by decide +kernel) (by decide +kernel) (by decide)
theorem in_X6_run : Cond.instanceMethod yX6_run ∈ fm_G := fm_mem 570 (by decide +kernel) (by decide +kernel)
theorem se_X6_run : Cond.selects RX6 yX6_run yX6_run ∈ fm_G := fm_mem 571 (by decide +kernel) (by decide +kernel)
abbrev m_X6_addCell : fm_Me := (yX6_addCell, cX6_addCell, 2, none, RX6)
theorem ce_X6_addCell : fm_callee m_X6_addCell 1 := fm_callee_of 1 (fm_mem 711 (by decide +kernel) (by decide +kernel)) (fm_mem 81 (by decide +kernel) (by decide +kernel)) (by decide +kernel) (by decide +kernel) (by decide)
theorem in_X6_addCell : Cond.instanceMethod yX6_addCell ∈ fm_G := fm_mem 710 (by decide +kernel) (by decide +kernel)
theorem se_X6_addCell : Cond.selects RX6 yX6_addCell yX6_addCell ∈ fm_G := fm_mem 17 (by decide +kernel) (by decide +kernel)
abbrev m_X6_tell : fm_Me := (yX6_tell, cX6_tell, 2, some .int, RX6)
theorem ce_X6_tell : fm_callee m_X6_tell 0 := fm_callee_of 0 (fm_mem 707 (by decide +kernel) (by decide +kernel)) (fm_mem 81 (by decide +kernel) (by decide +kernel)) (by decide +kernel) (by decide +kernel) (by decide)
theorem in_X6_tell : Cond.instanceMethod yX6_tell ∈ fm_G := fm_mem 705 (by decide +kernel) (by decide +kernel)
theorem se_X6_tell : Cond.selects RX6 yX6_tell yX6_tell ∈ fm_G := fm_mem 706 (by decide +kernel) (by decide +kernel)
abbrev m_X6_addWaiting : fm_Me := (yX6_addWaiting, cX6_addWaiting, 2, none, RX6)
theorem ce_X6_addWaiting : fm_callee m_X6_addWaiting 1 := fm_callee_of 1 (fm_mem 724 (by decide +kernel) (by decide +kernel)) (fm_mem 81 (by decide +kernel) (by decide +kernel)) (by decide +kernel) (by decide +kernel) (by decide)
theorem in_X6_addWaiting : Cond.instanceMethod yX6_addWaiting ∈ fm_G := fm_mem 723 (by decide +kernel) (by decide +kernel)
theorem se_X6_addWaiting : Cond.selects RX6 yX6_addWaiting yX6_addWaiting ∈ fm_G := fm_mem 18 (by decide +kernel) (by decide +kernel)
abbrev m_X6_tellWaiting : fm_Me := (yX6_tellWaiting, cX6_tellWaiting, 2, some .int, RX6)
theorem ce_X6_tellWaiting : fm_callee m_X6_tellWaiting 0 := fm_callee_of 0 (fm_mem 720 (by decide +kernel) (by decide +kernel)) (fm_mem 81 (by decide +kernel) (by decide +kernel)) (by decide +kernel) (by decide +kernel) (by decide)
theorem in_X6_tellWaiting : Cond.instanceMethod yX6_tellWaiting ∈ fm_G := fm_mem 718 (by decide +kernel) (by decide +kernel)
theorem se_X6_tellWaiting : Cond.selects RX6 yX6_tellWaiting yX6_tellWaiting ∈ fm_G := fm_mem 719 (by decide +kernel) (by decide +kernel)
abbrev m_X6_character : fm_Me := (yX6_character, cX6_character, 3, some .int, RX6)
theorem ce_X6_character : fm_callee m_X6_character 1 := fm_callee_of 1 (fm_mem 728 (by decide +kernel) (by decide +kernel)) (fm_mem 81 (by decide +kernel) (by decide +kernel)) (by decide +kernel) (by decide +kernel) (by decide)
theorem in_X6_character : Cond.instanceMethod yX6_character ∈ fm_G := fm_mem 726 (by decide +kernel) (by decide +kernel)
theorem se_X6_character : Cond.selects RX6 yX6_character yX6_character ∈ fm_G := fm_mem 727 (by decide +kernel) (by decide +kernel)
abbrev m_X6_reason : fm_Me := (yX6_reason, cX6_reason, 2, some .int, RX6)
theorem ce_X6_reason : fm_callee m_X6_reason 1 := fm_callee_of 1 (fm_mem 733 (by decide +kernel) (by decide +kernel)) (fm_mem 81 (by decide +kernel) (by decide +kernel)) (by decide +kernel) (by decide +kernel) (by decide)
theorem in_X6_reason : Cond.instanceMethod yX6_reason ∈ fm_G := fm_mem 731 (by decide +kernel) (by decide +kernel)
theorem se_X6_reason : Cond.selects RX6 yX6_reason yX6_reason ∈ fm_G := fm_mem 732 (by decide +kernel) (by decide +kernel)
abbrev m_X6_brethrenUnderBan : fm_Me := (yX6_brethrenUnderBan, cX6_brethrenUnderBan, 3, some .int, RX6)
theorem ce_X6_brethrenUnderBan : fm_callee m_X6_brethrenUnderBan 0 := fm_callee_of 0 (fm_mem 742 (by decide +kernel) (by decide +kernel)) (fm_mem 81 (by decide +kernel) (by decide +kernel)) (by decide +kernel) (by decide +kernel) (by decide)
theorem in_X6_brethrenUnderBan : Cond.instanceMethod yX6_brethrenUnderBan ∈ fm_G := fm_mem 741 (by decide +kernel) (by decide +kernel)
theorem se_X6_brethrenUnderBan : Cond.selects RX6 yX6_brethrenUnderBan yX6_brethrenUnderBan ∈ fm_G := fm_mem 19 (by decide +kernel) (by decide +kernel)
abbrev m_X6_account : fm_Me := (yX6_account, cX6_account, 2, some .int, RX6)
theorem ce_X6_account : fm_callee m_X6_account 1 := fm_callee_of 1 (fm_mem 737 (by decide +kernel) (by decide +kernel)) (fm_mem 81 (by decide +kernel) (by decide +kernel)) (by decide +kernel) (by decide +kernel) (by decide)
theorem in_X6_account : Cond.instanceMethod yX6_account ∈ fm_G := fm_mem 735 (by decide +kernel) (by decide +kernel)
theorem se_X6_account : Cond.selects RX6 yX6_account yX6_account ∈ fm_G := fm_mem 736 (by decide +kernel) (by decide +kernel)
abbrev m_X6_cellsWith : fm_Me := (yX6_cellsWith, cX6_cellsWith, 4, some .int, RX6)
theorem ce_X6_cellsWith : fm_callee m_X6_cellsWith 1 := fm_callee_of 1 (fm_mem 755 (by decide +kernel) (by decide +kernel)) (fm_mem 81 (by decide +kernel) (by decide +kernel)) (by decide +kernel) (by decide +kernel) (by decide)
theorem in_X6_cellsWith : Cond.instanceMethod yX6_cellsWith ∈ fm_G := fm_mem 754 (by decide +kernel) (by decide +kernel)
theorem se_X6_cellsWith : Cond.selects RX6 yX6_cellsWith yX6_cellsWith ∈ fm_G := fm_mem 20 (by decide +kernel) (by decide +kernel)
abbrev m_X6_isBalanced : fm_Me := (yX6_isBalanced, cX6_isBalanced, 5, some .int, RX6)
theorem ce_X6_isBalanced : fm_callee m_X6_isBalanced 0 := fm_callee_of 0 (fm_mem 751 (by decide +kernel) (by decide +kernel)) (fm_mem 81 (by decide +kernel) (by decide +kernel)) (by decide +kernel) (by decide +kernel) (by decide)
theorem in_X6_isBalanced : Cond.instanceMethod yX6_isBalanced ∈ fm_G := fm_mem 749 (by decide +kernel) (by decide +kernel)
theorem se_X6_isBalanced : Cond.selects RX6 yX6_isBalanced yX6_isBalanced ∈ fm_G := fm_mem 750 (by decide +kernel) (by decide +kernel)
abbrev m_X6_meanAge : fm_Me := (yX6_meanAge, cX6_meanAge, 4, some .double, RX6)
theorem ce_X6_meanAge : fm_callee m_X6_meanAge 0 := fm_callee_of 0 (fm_mem 759 (by decide +kernel) (by decide +kernel)) (fm_mem 81 (by decide +kernel) (by decide +kernel)) (by decide +kernel) (by decide +kernel) (by decide)
theorem in_X6_meanAge : Cond.instanceMethod yX6_meanAge ∈ fm_G := fm_mem 757 (by decide +kernel) (by decide +kernel)
theorem se_X6_meanAge : Cond.selects RX6 yX6_meanAge yX6_meanAge ∈ fm_G := fm_mem 758 (by decide +kernel) (by decide +kernel)
abbrev m_X6_entitledShare : fm_Me := (yX6_entitledShare, cX6_entitledShare, 2, some .float, RX6)
theorem ce_X6_entitledShare : fm_callee m_X6_entitledShare 0 := fm_callee_of 0 (fm_mem 763 (by decide +kernel) (by decide +kernel)) (fm_mem 81 (by decide +kernel) (by decide +kernel)) (by decide +kernel) (by decide +kernel) (by decide)
theorem in_X6_entitledShare : Cond.instanceMethod yX6_entitledShare ∈ fm_G := fm_mem 761 (by decide +kernel) (by decide +kernel)
theorem se_X6_entitledShare : Cond.selects RX6 yX6_entitledShare yX6_entitledShare ∈ fm_G := fm_mem 762 (by decide +kernel) (by decide +kernel)
abbrev m_X6_undo : fm_Me := (yX6_undo, cX6_undo, 1, some .int, RX6)
theorem ce_X6_undo : fm_callee m_X6_undo 0 := fm_callee_of 0 (fm_mem 768 (by decide +kernel) (by decide +kernel)) (fm_mem 81 (by decide +kernel) (by decide +kernel)) (by decide +kernel) (by decide +kernel) (by decide)
theorem in_X6_undo : Cond.instanceMethod yX6_undo ∈ fm_G := fm_mem 766 (by decide +kernel) (by decide +kernel)
theorem se_X6_undo : Cond.selects RX6 yX6_undo yX6_undo ∈ fm_G := fm_mem 767 (by decide +kernel) (by decide +kernel)
abbrev m_X6_save : fm_Me := (yX6_save, cX6_save, 1, some .int, RX6)
theorem ce_X6_save : fm_callee m_X6_save 0 := fm_callee_of 0 (fm_mem 780 (by decide +kernel) (by decide +kernel)) (fm_mem 81 (by decide +kernel) (by decide +kernel)) (by decide +kernel) (by decide +kernel) (by decide)
theorem in_X6_save : Cond.instanceMethod yX6_save ∈ fm_G := fm_mem 778 (by decide +kernel) (by decide +kernel)
theorem se_X6_save : Cond.selects RX6 yX6_save yX6_save ∈ fm_G := fm_mem 779 (by decide +kernel) (by decide +kernel)
abbrev m_X6_restore : fm_Me := (yX6_restore, cX6_restore, 1, some .int, RX6)
theorem ce_X6_restore : fm_callee m_X6_restore 0 := fm_callee_of 0 (fm_mem 784 (by decide +kernel) (by decide +kernel)) (fm_mem 81 (by decide +kernel) (by decide +kernel)) (by decide +kernel) (by decide +kernel) (by decide)
theorem in_X6_restore : Cond.instanceMethod yX6_restore ∈ fm_G := fm_mem 782 (by decide +kernel) (by decide +kernel)
theorem se_X6_restore : Cond.selects RX6 yX6_restore yX6_restore ∈ fm_G := fm_mem 783 (by decide +kernel) (by decide +kernel)
abbrev m_X7_init : fm_Me := (yX7_init, cX7_init, 1, none, RX7)
theorem ce_X7_init : fm_callee m_X7_init 0 := fm_callee_of 0 (fm_mem 793 (by decide +kernel) (by decide +kernel)) (fm_mem 89 (by decide +kernel) (by decide +kernel)) (by decide +kernel) (by decide +kernel) (by decide)
theorem in_X7_init : Cond.instanceMethod yX7_init ∈ fm_G := fm_mem 792 (by decide +kernel) (by decide +kernel)
abbrev m_X7_isBetween : fm_Me := (yX7_isBetween, cX7_isBetween, 3, some .boolean, RX7)
theorem ce_X7_isBetween : fm_callee m_X7_isBetween 3 := fm_callee_of 3 (fm_mem 867 (by decide +kernel) (by decide +kernel)) (fm_mem 89 (by decide +kernel) (by decide +kernel)) (by decide +kernel) (by decide +kernel) (by decide)
theorem st_X7_isBetween : Cond.static yX7_isBetween ∈ fm_G := fm_mem 866 (by decide +kernel) (by decide +kernel)
abbrev m_X7_lesser : fm_Me := (yX7_lesser, cX7_lesser, 2, some .int, RX7)
theorem ce_X7_lesser : fm_callee m_X7_lesser 2 := fm_callee_of 2 (fm_mem 1033 (by decide +kernel) (by decide +kernel)) (fm_mem 89 (by decide +kernel) (by decide +kernel)) (by decide +kernel) (by decide +kernel) (by decide)
theorem st_X7_lesser : Cond.static yX7_lesser ∈ fm_G := fm_mem 1032 (by decide +kernel) (by decide +kernel)
abbrev m_X7_isNot : fm_Me := (yX7_isNot, cX7_isNot, 3, some .int, RX7)
theorem ce_X7_isNot : fm_callee m_X7_isNot 2 := fm_callee_of 2 (fm_mem 871 (by decide +kernel) (by decide +kernel)) (fm_mem 89 (by decide +kernel) (by decide +kernel)) (by decide +kernel) (by decide +kernel) (by decide)
theorem in_X7_isNot : Cond.instanceMethod yX7_isNot ∈ fm_G := fm_mem 870 (by decide +kernel) (by decide +kernel)
theorem se_X7_isNot : Cond.selects RX7 yX7_isNot yX7_isNot ∈ fm_G := fm_mem 21 (by decide +kernel) (by decide +kernel)
abbrev m_X7_refuses : fm_Me := (yX7_refuses, cX7_refuses, 2, some .int, RX7)
theorem ce_X7_refuses : fm_callee m_X7_refuses 1 := fm_callee_of 1 (fm_mem 875 (by decide +kernel) (by decide +kernel)) (fm_mem 89 (by decide +kernel) (by decide +kernel)) (by decide +kernel) (by decide +kernel) (by decide)
theorem in_X7_refuses : Cond.instanceMethod yX7_refuses ∈ fm_G := fm_mem 874 (by decide +kernel) (by decide +kernel)
theorem se_X7_refuses : Cond.selects RX7 yX7_refuses yX7_refuses ∈ fm_G := fm_mem 22 (by decide +kernel) (by decide +kernel)
abbrev m_X7_reason : fm_Me := (yX7_reason, cX7_reason, 2, some .int, RX7)
theorem ce_X7_reason : fm_callee m_X7_reason 1 := fm_callee_of 1 (fm_mem 860 (by decide +kernel) (by decide +kernel)) (fm_mem 89 (by decide +kernel) (by decide +kernel)) (by decide +kernel) (by decide +kernel) (by decide)
theorem in_X7_reason : Cond.instanceMethod yX7_reason ∈ fm_G := fm_mem 858 (by decide +kernel) (by decide +kernel)
theorem se_X7_reason : Cond.selects RX7 yX7_reason yX7_reason ∈ fm_G := fm_mem 859 (by decide +kernel) (by decide +kernel)
abbrev m_X7_thinks : fm_Me := (yX7_thinks, cX7_thinks, 2, none, RX7)
theorem ce_X7_thinks : fm_callee m_X7_thinks 0 := fm_callee_of 0 (fm_mem 883 (by decide +kernel) (by decide +kernel)) (fm_mem 89 (by decide +kernel) (by decide +kernel)) (by decide +kernel) (by decide +kernel) (by decide)
theorem in_X7_thinks : Cond.instanceMethod yX7_thinks ∈ fm_G := fm_mem 882 (by decide +kernel) (by decide +kernel)
theorem se_X7_thinks : Cond.selects RX7 yX7_thinks yX7_thinks ∈ fm_G := fm_mem 24 (by decide +kernel) (by decide +kernel)
abbrev m_X7_forgets : fm_Me := (yX7_forgets, cX7_forgets, 2, none, RX7)
theorem ce_X7_forgets : fm_callee m_X7_forgets 0 := fm_callee_of 0 (fm_mem 1081 (by decide +kernel) (by decide +kernel)) (fm_mem 89 (by decide +kernel) (by decide +kernel)) (by decide +kernel) (by decide +kernel) (by decide)
theorem in_X7_forgets : Cond.instanceMethod yX7_forgets ∈ fm_G := fm_mem 1080 (by decide +kernel) (by decide +kernel)
theorem se_X7_forgets : Cond.selects RX7 yX7_forgets yX7_forgets ∈ fm_G := fm_mem 62 (by decide +kernel) (by decide +kernel)
abbrev m_X7_keepsMind : fm_Me := (yX7_keepsMind, cX7_keepsMind, 3, none, RX7)
theorem ce_X7_keepsMind : fm_callee m_X7_keepsMind 0 := fm_callee_of 0 (fm_mem 887 (by decide +kernel) (by decide +kernel)) (fm_mem 89 (by decide +kernel) (by decide +kernel)) (by decide +kernel) (by decide +kernel) (by decide)
theorem in_X7_keepsMind : Cond.instanceMethod yX7_keepsMind ∈ fm_G := fm_mem 886 (by decide +kernel) (by decide +kernel)
theorem se_X7_keepsMind : Cond.selects RX7 yX7_keepsMind yX7_keepsMind ∈ fm_G := fm_mem 25 (by decide +kernel) (by decide +kernel)
abbrev m_X7_remembers : fm_Me := (yX7_remembers, cX7_remembers, 1, none, RX7)
theorem ce_X7_remembers : fm_callee m_X7_remembers 0 := fm_callee_of 0 (fm_mem 879 (by decide +kernel) (by decide +kernel)) (fm_mem 89 (by decide +kernel) (by decide +kernel)) (by decide +kernel) (by decide +kernel) (by decide)
theorem in_X7_remembers : Cond.instanceMethod yX7_remembers ∈ fm_G := fm_mem 878 (by decide +kernel) (by decide +kernel)
theorem se_X7_remembers : Cond.selects RX7 yX7_remembers yX7_remembers ∈ fm_G := fm_mem 23 (by decide +kernel) (by decide +kernel)
abbrev m_X7_of : fm_Me := (yX7_of, cX7_of, 3, some .int, RX7)
theorem ce_X7_of : fm_callee m_X7_of 2 := fm_callee_of 2 (fm_mem 911 (by decide +kernel) (by decide +kernel)) (fm_mem 89 (by decide +kernel) (by decide +kernel)) (by decide +kernel) (by decide +kernel) (by decide)
theorem in_X7_of : Cond.instanceMethod yX7_of ∈ fm_G := fm_mem 910 (by decide +kernel) (by decide +kernel)
theorem se_X7_of : Cond.selects RX7 yX7_of yX7_of ∈ fm_G := fm_mem 30 (by decide +kernel) (by decide +kernel)
abbrev m_X7_sets : fm_Me := (yX7_sets, cX7_sets, 4, none, RX7)
theorem ce_X7_sets : fm_callee m_X7_sets 3 := fm_callee_of 3 (fm_mem 891 (by decide +kernel) (by decide +kernel)) (fm_mem 89 (by decide +kernel) (by decide +kernel)) (by decide +kernel) (by decide +kernel) (by decide)
theorem in_X7_sets : Cond.instanceMethod yX7_sets ∈ fm_G := fm_mem 890 (by decide +kernel) (by decide +kernel)
theorem se_X7_sets : Cond.selects RX7 yX7_sets yX7_sets ∈ fm_G := fm_mem 26 (by decide +kernel) (by decide +kernel)
abbrev m_X7_isBrother : fm_Me := (yX7_isBrother, cX7_isBrother, 2, some .boolean, RX7)
theorem ce_X7_isBrother : fm_callee m_X7_isBrother 1 := fm_callee_of 1 (fm_mem 903 (by decide +kernel) (by decide +kernel)) (fm_mem 89 (by decide +kernel) (by decide +kernel)) (by decide +kernel) (by decide +kernel) (by decide)
theorem in_X7_isBrother : Cond.instanceMethod yX7_isBrother ∈ fm_G := fm_mem 902 (by decide +kernel) (by decide +kernel)
theorem se_X7_isBrother : Cond.selects RX7 yX7_isBrother yX7_isBrother ∈ fm_G := fm_mem 28 (by decide +kernel) (by decide +kernel)
abbrev m_X7_isCell : fm_Me := (yX7_isCell, cX7_isCell, 1, some .boolean, RX7)
theorem ce_X7_isCell : fm_callee m_X7_isCell 1 := fm_callee_of 1 (fm_mem 954 (by decide +kernel) (by decide +kernel)) (fm_mem 89 (by decide +kernel) (by decide +kernel)) (by decide +kernel) (by decide +kernel) (by decide)
theorem st_X7_isCell : Cond.static yX7_isCell ∈ fm_G := fm_mem 953 (by decide +kernel) (by decide +kernel)
abbrev m_X7_isSo : fm_Me := (yX7_isSo, cX7_isSo, 3, some .boolean, RX7)
theorem ce_X7_isSo : fm_callee m_X7_isSo 2 := fm_callee_of 2 (fm_mem 907 (by decide +kernel) (by decide +kernel)) (fm_mem 89 (by decide +kernel) (by decide +kernel)) (by decide +kernel) (by decide +kernel) (by decide)
theorem in_X7_isSo : Cond.instanceMethod yX7_isSo ∈ fm_G := fm_mem 906 (by decide +kernel) (by decide +kernel)
theorem se_X7_isSo : Cond.selects RX7 yX7_isSo yX7_isSo ∈ fm_G := fm_mem 29 (by decide +kernel) (by decide +kernel)
abbrev m_X7_brethrenThat : fm_Me := (yX7_brethrenThat, cX7_brethrenThat, 4, some .int, RX7)
theorem ce_X7_brethrenThat : fm_callee m_X7_brethrenThat 1 := fm_callee_of 1 (fm_mem 923 (by decide +kernel) (by decide +kernel)) (fm_mem 89 (by decide +kernel) (by decide +kernel)) (by decide +kernel) (by decide +kernel) (by decide)
theorem in_X7_brethrenThat : Cond.instanceMethod yX7_brethrenThat ∈ fm_G := fm_mem 922 (by decide +kernel) (by decide +kernel)
theorem se_X7_brethrenThat : Cond.selects RX7 yX7_brethrenThat yX7_brethrenThat ∈ fm_G := fm_mem 33 (by decide +kernel) (by decide +kernel)
abbrev m_X7_brotherIn : fm_Me := (yX7_brotherIn, cX7_brotherIn, 3, some .int, RX7)
theorem ce_X7_brotherIn : fm_callee m_X7_brotherIn 1 := fm_callee_of 1 (fm_mem 958 (by decide +kernel) (by decide +kernel)) (fm_mem 89 (by decide +kernel) (by decide +kernel)) (by decide +kernel) (by decide +kernel) (by decide)
theorem in_X7_brotherIn : Cond.instanceMethod yX7_brotherIn ∈ fm_G := fm_mem 957 (by decide +kernel) (by decide +kernel)
theorem se_X7_brotherIn : Cond.selects RX7 yX7_brotherIn yX7_brotherIn ∈ fm_G := fm_mem 39 (by decide +kernel) (by decide +kernel)
abbrev m_X7_countsFor : fm_Me := (yX7_countsFor, cX7_countsFor, 2, some .int, RX7)
theorem ce_X7_countsFor : fm_callee m_X7_countsFor 1 := fm_callee_of 1 (fm_mem 943 (by decide +kernel) (by decide +kernel)) (fm_mem 89 (by decide +kernel) (by decide +kernel)) (by decide +kernel) (by decide +kernel) (by decide)
theorem in_X7_countsFor : Cond.instanceMethod yX7_countsFor ∈ fm_G := fm_mem 942 (by decide +kernel) (by decide +kernel)
theorem se_X7_countsFor : Cond.selects RX7 yX7_countsFor yX7_countsFor ∈ fm_G := fm_mem 37 (by decide +kernel) (by decide +kernel)
abbrev m_X7_voicesFor : fm_Me := (yX7_voicesFor, cX7_voicesFor, 4, some .int, RX7)
theorem ce_X7_voicesFor : fm_callee m_X7_voicesFor 1 := fm_callee_of 1 (fm_mem 939 (by decide +kernel) (by decide +kernel)) (fm_mem 89 (by decide +kernel) (by decide +kernel)) (by decide +kernel) (by decide +kernel) (by decide)
theorem in_X7_voicesFor : Cond.instanceMethod yX7_voicesFor ∈ fm_G := fm_mem 938 (by decide +kernel) (by decide +kernel)
theorem se_X7_voicesFor : Cond.selects RX7 yX7_voicesFor yX7_voicesFor ∈ fm_G := fm_mem 36 (by decide +kernel) (by decide +kernel)
abbrev m_X7_voicesGo : fm_Me := (yX7_voicesGo, cX7_voicesGo, 3, none, RX7)
theorem ce_X7_voicesGo : fm_callee m_X7_voicesGo 1 := fm_callee_of 1 (fm_mem 919 (by decide +kernel) (by decide +kernel)) (fm_mem 89 (by decide +kernel) (by decide +kernel)) (by decide +kernel) (by decide +kernel) (by decide)
theorem in_X7_voicesGo : Cond.instanceMethod yX7_voicesGo ∈ fm_G := fm_mem 918 (by decide +kernel) (by decide +kernel)
theorem se_X7_voicesGo : Cond.selects RX7 yX7_voicesGo yX7_voicesGo ∈ fm_G := fm_mem 32 (by decide +kernel) (by decide +kernel)
abbrev m_X7_stamps : fm_Me := (yX7_stamps, cX7_stamps, 2, none, RX7)
theorem ce_X7_stamps : fm_callee m_X7_stamps 1 := fm_callee_of 1 (fm_mem 895 (by decide +kernel) (by decide +kernel)) (fm_mem 89 (by decide +kernel) (by decide +kernel)) (by decide +kernel) (by decide +kernel) (by decide)
theorem in_X7_stamps : Cond.instanceMethod yX7_stamps ∈ fm_G := fm_mem 894 (by decide +kernel) (by decide +kernel)
theorem se_X7_stamps : Cond.selects RX7 yX7_stamps yX7_stamps ∈ fm_G := fm_mem 27 (by decide +kernel) (by decide +kernel)
abbrev m_X7_becomes : fm_Me := (yX7_becomes, cX7_becomes, 3, none, RX7)
theorem ce_X7_becomes : fm_callee m_X7_becomes 2 := fm_callee_of 2 (fm_mem 915 (by decide +kernel) (by decide +kernel)) (fm_mem 89 (by decide +kernel) (by decide +kernel)) (by decide +kernel) (by decide +kernel) (by decide)
theorem in_X7_becomes : Cond.instanceMethod yX7_becomes ∈ fm_G := fm_mem 914 (by decide +kernel) (by decide +kernel)
theorem se_X7_becomes : Cond.selects RX7 yX7_becomes yX7_becomes ∈ fm_G := fm_mem 31 (by decide +kernel) (by decide +kernel)
abbrev m_X7_come : fm_Me := (yX7_come, cX7_come, 4, some .int, RX7)
theorem ce_X7_come : fm_callee m_X7_come 2 := fm_callee_of 2 (fm_mem 864 (by decide +kernel) (by decide +kernel)) (fm_mem 89 (by decide +kernel) (by decide +kernel)) (by decide +kernel) (by decide +kernel) (by decide)
theorem in_X7_come : Cond.instanceMethod yX7_come ∈ fm_G := fm_mem 862 (by decide +kernel) (by decide +kernel)
theorem se_X7_come : Cond.selects RX7 yX7_come yX7_come ∈ fm_G := fm_mem 863 (by decide +kernel) (by decide +kernel)
abbrev m_X7_withdraw : fm_Me := (yX7_withdraw, cX7_withdraw, 2, some .int, RX7)
theorem ce_X7_withdraw : fm_callee m_X7_withdraw 1 := fm_callee_of 1 (fm_mem 899 (by decide +kernel) (by decide +kernel)) (fm_mem 89 (by decide +kernel) (by decide +kernel)) (by decide +kernel) (by decide +kernel) (by decide)
theorem in_X7_withdraw : Cond.instanceMethod yX7_withdraw ∈ fm_G := fm_mem 897 (by decide +kernel) (by decide +kernel)
theorem se_X7_withdraw : Cond.selects RX7 yX7_withdraw yX7_withdraw ∈ fm_G := fm_mem 898 (by decide +kernel) (by decide +kernel)
abbrev m_X7_notVoice : fm_Me := (yX7_notVoice, cX7_notVoice, 3, some .int, RX7)
theorem ce_X7_notVoice : fm_callee m_X7_notVoice 2 := fm_callee_of 2 (fm_mem 931 (by decide +kernel) (by decide +kernel)) (fm_mem 89 (by decide +kernel) (by decide +kernel)) (by decide +kernel) (by decide +kernel) (by decide)
theorem in_X7_notVoice : Cond.instanceMethod yX7_notVoice ∈ fm_G := fm_mem 930 (by decide +kernel) (by decide +kernel)
theorem se_X7_notVoice : Cond.selects RX7 yX7_notVoice yX7_notVoice ∈ fm_G := fm_mem 34 (by decide +kernel) (by decide +kernel)
abbrev m_X7_gives : fm_Me := (yX7_gives, cX7_gives, 3, some .int, RX7)
theorem ce_X7_gives : fm_callee m_X7_gives 2 := fm_callee_of 2 (fm_mem 935 (by decide +kernel) (by decide +kernel)) (fm_mem 89 (by decide +kernel) (by decide +kernel)) (by decide +kernel) (by decide +kernel) (by decide)
theorem in_X7_gives : Cond.instanceMethod yX7_gives ∈ fm_G := fm_mem 934 (by decide +kernel) (by decide +kernel)
theorem se_X7_gives : Cond.selects RX7 yX7_gives yX7_gives ∈ fm_G := fm_mem 35 (by decide +kernel) (by decide +kernel)
abbrev m_X7_voice : fm_Me := (yX7_voice, cX7_voice, 4, some .int, RX7)
theorem ce_X7_voice : fm_callee m_X7_voice 2 := fm_callee_of 2 (fm_mem 927 (by decide +kernel) (by decide +kernel)) (fm_mem 89 (by decide +kernel) (by decide +kernel)) (by decide +kernel) (by decide +kernel) (by decide)
theorem in_X7_voice : Cond.instanceMethod yX7_voice ∈ fm_G := fm_mem 925 (by decide +kernel) (by decide +kernel)
theorem se_X7_voice : Cond.selects RX7 yX7_voice yX7_voice ∈ fm_G := fm_mem 926 (by decide +kernel) (by decide +kernel)
abbrev m_X7_isChosenAhead : fm_Me := (yX7_isChosenAhead, cX7_isChosenAhead, 3, some .boolean, RX7)
theorem ce_X7_isChosenAhead : fm_callee m_X7_isChosenAhead 2 := fm_callee_of 2 (fm_mem 970 (by decide +kernel) (by decide +kernel)) (fm_mem 89 (by decide +kernel) (by decide +kernel)) (by decide +kernel) (by decide +kernel) (by decide)
theorem in_X7_isChosenAhead : Cond.instanceMethod yX7_isChosenAhead ∈ fm_G := fm_mem 969 (by decide +kernel) (by decide +kernel)
theorem se_X7_isChosenAhead : Cond.selects RX7 yX7_isChosenAhead yX7_isChosenAhead ∈ fm_G := fm_mem 42 (by decide +kernel) (by decide +kernel)
abbrev m_X7_rankedAt : fm_Me := (yX7_rankedAt, cX7_rankedAt, 5, some .int, RX7)
theorem ce_X7_rankedAt : fm_callee m_X7_rankedAt 1 := fm_callee_of 1 (fm_mem 966 (by decide +kernel) (by decide +kernel)) (fm_mem 89 (by decide +kernel) (by decide +kernel)) (by decide +kernel) (by decide +kernel) (by decide)
theorem in_X7_rankedAt : Cond.instanceMethod yX7_rankedAt ∈ fm_G := fm_mem 965 (by decide +kernel) (by decide +kernel)
theorem se_X7_rankedAt : Cond.selects RX7 yX7_rankedAt yX7_rankedAt ∈ fm_G := fm_mem 41 (by decide +kernel) (by decide +kernel)
abbrev m_X7_notChoose : fm_Me := (yX7_notChoose, cX7_notChoose, 2, some .int, RX7)
theorem ce_X7_notChoose : fm_callee m_X7_notChoose 1 := fm_callee_of 1 (fm_mem 951 (by decide +kernel) (by decide +kernel)) (fm_mem 89 (by decide +kernel) (by decide +kernel)) (by decide +kernel) (by decide +kernel) (by decide)
theorem in_X7_notChoose : Cond.instanceMethod yX7_notChoose ∈ fm_G := fm_mem 950 (by decide +kernel) (by decide +kernel)
theorem se_X7_notChoose : Cond.selects RX7 yX7_notChoose yX7_notChoose ∈ fm_G := fm_mem 38 (by decide +kernel) (by decide +kernel)
abbrev m_X7_chooses : fm_Me := (yX7_chooses, cX7_chooses, 3, some .int, RX7)
theorem ce_X7_chooses : fm_callee m_X7_chooses 1 := fm_callee_of 1 (fm_mem 962 (by decide +kernel) (by decide +kernel)) (fm_mem 89 (by decide +kernel) (by decide +kernel)) (by decide +kernel) (by decide +kernel) (by decide)
theorem in_X7_chooses : Cond.instanceMethod yX7_chooses ∈ fm_G := fm_mem 961 (by decide +kernel) (by decide +kernel)
theorem se_X7_chooses : Cond.selects RX7 yX7_chooses yX7_chooses ∈ fm_G := fm_mem 40 (by decide +kernel) (by decide +kernel)
abbrev m_X7_choose : fm_Me := (yX7_choose, cX7_choose, 3, some .int, RX7)
theorem ce_X7_choose : fm_callee m_X7_choose 1 := fm_callee_of 1 (fm_mem 947 (by decide +kernel) (by decide +kernel)) (fm_mem 89 (by decide +kernel) (by decide +kernel)) (by decide +kernel) (by decide +kernel) (by decide)
theorem in_X7_choose : Cond.instanceMethod yX7_choose ∈ fm_G := fm_mem 945 (by decide +kernel) (by decide +kernel)
theorem se_X7_choose : Cond.selects RX7 yX7_choose yX7_choose ∈ fm_G := fm_mem 946 (by decide +kernel) (by decide +kernel)
abbrev m_X7_notLeave : fm_Me := (yX7_notLeave, cX7_notLeave, 2, some .int, RX7)
theorem ce_X7_notLeave : fm_callee m_X7_notLeave 1 := fm_callee_of 1 (fm_mem 978 (by decide +kernel) (by decide +kernel)) (fm_mem 89 (by decide +kernel) (by decide +kernel)) (by decide +kernel) (by decide +kernel) (by decide)
theorem in_X7_notLeave : Cond.instanceMethod yX7_notLeave ∈ fm_G := fm_mem 977 (by decide +kernel) (by decide +kernel)
theorem se_X7_notLeave : Cond.selects RX7 yX7_notLeave yX7_notLeave ∈ fm_G := fm_mem 43 (by decide +kernel) (by decide +kernel)
abbrev m_X7_leaves : fm_Me := (yX7_leaves, cX7_leaves, 3, some .int, RX7)
theorem ce_X7_leaves : fm_callee m_X7_leaves 1 := fm_callee_of 1 (fm_mem 982 (by decide +kernel) (by decide +kernel)) (fm_mem 89 (by decide +kernel) (by decide +kernel)) (by decide +kernel) (by decide +kernel) (by decide)
theorem in_X7_leaves : Cond.instanceMethod yX7_leaves ∈ fm_G := fm_mem 981 (by decide +kernel) (by decide +kernel)
theorem se_X7_leaves : Cond.selects RX7 yX7_leaves yX7_leaves ∈ fm_G := fm_mem 44 (by decide +kernel) (by decide +kernel)
abbrev m_X7_leave : fm_Me := (yX7_leave, cX7_leave, 3, some .int, RX7)
theorem ce_X7_leave : fm_callee m_X7_leave 1 := fm_callee_of 1 (fm_mem 974 (by decide +kernel) (by decide +kernel)) (fm_mem 89 (by decide +kernel) (by decide +kernel)) (by decide +kernel) (by decide +kernel) (by decide)
theorem in_X7_leave : Cond.instanceMethod yX7_leave ∈ fm_G := fm_mem 972 (by decide +kernel) (by decide +kernel)
theorem se_X7_leave : Cond.selects RX7 yX7_leave yX7_leave ∈ fm_G := fm_mem 973 (by decide +kernel) (by decide +kernel)
abbrev m_X7_notFeast : fm_Me := (yX7_notFeast, cX7_notFeast, 3, some .int, RX7)
theorem ce_X7_notFeast : fm_callee m_X7_notFeast 2 := fm_callee_of 2 (fm_mem 990 (by decide +kernel) (by decide +kernel)) (fm_mem 89 (by decide +kernel) (by decide +kernel)) (by decide +kernel) (by decide +kernel) (by decide)
theorem in_X7_notFeast : Cond.instanceMethod yX7_notFeast ∈ fm_G := fm_mem 989 (by decide +kernel) (by decide +kernel)
theorem se_X7_notFeast : Cond.selects RX7 yX7_notFeast yX7_notFeast ∈ fm_G := fm_mem 45 (by decide +kernel) (by decide +kernel)
abbrev m_X7_tells : fm_Me := (yX7_tells, cX7_tells, 3, some .int, RX7)
theorem ce_X7_tells : fm_callee m_X7_tells 2 := fm_callee_of 2 (fm_mem 994 (by decide +kernel) (by decide +kernel)) (fm_mem 89 (by decide +kernel) (by decide +kernel)) (by decide +kernel) (by decide +kernel) (by decide)
theorem in_X7_tells : Cond.instanceMethod yX7_tells ∈ fm_G := fm_mem 993 (by decide +kernel) (by decide +kernel)
theorem se_X7_tells : Cond.selects RX7 yX7_tells yX7_tells ∈ fm_G := fm_mem 46 (by decide +kernel) (by decide +kernel)
abbrev m_X7_feast : fm_Me := (yX7_feast, cX7_feast, 4, some .int, RX7)
theorem ce_X7_feast : fm_callee m_X7_feast 2 := fm_callee_of 2 (fm_mem 986 (by decide +kernel) (by decide +kernel)) (fm_mem 89 (by decide +kernel) (by decide +kernel)) (by decide +kernel) (by decide +kernel) (by decide)
theorem in_X7_feast : Cond.instanceMethod yX7_feast ∈ fm_G := fm_mem 984 (by decide +kernel) (by decide +kernel)
theorem se_X7_feast : Cond.selects RX7 yX7_feast yX7_feast ∈ fm_G := fm_mem 985 (by decide +kernel) (by decide +kernel)
abbrev m_X7_notBreach : fm_Me := (yX7_notBreach, cX7_notBreach, 3, some .int, RX7)
theorem ce_X7_notBreach : fm_callee m_X7_notBreach 2 := fm_callee_of 2 (fm_mem 1002 (by decide +kernel) (by decide +kernel)) (fm_mem 89 (by decide +kernel) (by decide +kernel)) (by decide +kernel) (by decide +kernel) (by decide)
theorem in_X7_notBreach : Cond.instanceMethod yX7_notBreach ∈ fm_G := fm_mem 1001 (by decide +kernel) (by decide +kernel)
theorem se_X7_notBreach : Cond.selects RX7 yX7_notBreach yX7_notBreach ∈ fm_G := fm_mem 47 (by decide +kernel) (by decide +kernel)
abbrev m_X7_breaks : fm_Me := (yX7_breaks, cX7_breaks, 4, some .int, RX7)
theorem ce_X7_breaks : fm_callee m_X7_breaks 2 := fm_callee_of 2 (fm_mem 1006 (by decide +kernel) (by decide +kernel)) (fm_mem 89 (by decide +kernel) (by decide +kernel)) (by decide +kernel) (by decide +kernel) (by decide)
theorem in_X7_breaks : Cond.instanceMethod yX7_breaks ∈ fm_G := fm_mem 1005 (by decide +kernel) (by decide +kernel)
theorem se_X7_breaks : Cond.selects RX7 yX7_breaks yX7_breaks ∈ fm_G := fm_mem 48 (by decide +kernel) (by decide +kernel)
abbrev m_X7_breach : fm_Me := (yX7_breach, cX7_breach, 4, some .int, RX7)
theorem ce_X7_breach : fm_callee m_X7_breach 2 := fm_callee_of 2 (fm_mem 998 (by decide +kernel) (by decide +kernel)) (fm_mem 89 (by decide +kernel) (by decide +kernel)) (by decide +kernel) (by decide +kernel) (by decide)
theorem in_X7_breach : Cond.instanceMethod yX7_breach ∈ fm_G := fm_mem 996 (by decide +kernel) (by decide +kernel)
theorem se_X7_breach : Cond.selects RX7 yX7_breach yX7_breach ∈ fm_G := fm_mem 997 (by decide +kernel) (by decide +kernel)
abbrev m_X7_notPardon : fm_Me := (yX7_notPardon, cX7_notPardon, 2, some .int, RX7)
theorem ce_X7_notPardon : fm_callee m_X7_notPardon 1 := fm_callee_of 1 (fm_mem 1014 (by decide +kernel) (by decide +kernel)) (fm_mem 89 (by decide +kernel) (by decide +kernel)) (by decide +kernel) (by decide +kernel) (by decide)
theorem in_X7_notPardon : Cond.instanceMethod yX7_notPardon ∈ fm_G := fm_mem 1013 (by decide +kernel) (by decide +kernel)
theorem se_X7_notPardon : Cond.selects RX7 yX7_notPardon yX7_notPardon ∈ fm_G := fm_mem 49 (by decide +kernel) (by decide +kernel)
abbrev m_X7_pardons : fm_Me := (yX7_pardons, cX7_pardons, 3, some .int, RX7)
theorem ce_X7_pardons : fm_callee m_X7_pardons 1 := fm_callee_of 1 (fm_mem 1018 (by decide +kernel) (by decide +kernel)) (fm_mem 89 (by decide +kernel) (by decide +kernel)) (by decide +kernel) (by decide +kernel) (by decide)
theorem in_X7_pardons : Cond.instanceMethod yX7_pardons ∈ fm_G := fm_mem 1017 (by decide +kernel) (by decide +kernel)
theorem se_X7_pardons : Cond.selects RX7 yX7_pardons yX7_pardons ∈ fm_G := fm_mem 50 (by decide +kernel) (by decide +kernel)
abbrev m_X7_pardon : fm_Me := (yX7_pardon, cX7_pardon, 3, some .int, RX7)
theorem ce_X7_pardon : fm_callee m_X7_pardon 1 := fm_callee_of 1 (fm_mem 1010 (by decide +kernel) (by decide +kernel)) (fm_mem 89 (by decide +kernel) (by decide +kernel)) (by decide +kernel) (by decide +kernel) (by decide)
theorem in_X7_pardon : Cond.instanceMethod yX7_pardon ∈ fm_G := fm_mem 1008 (by decide +kernel) (by decide +kernel)
theorem se_X7_pardon : Cond.selects RX7 yX7_pardon yX7_pardon ∈ fm_G := fm_mem 1009 (by decide +kernel) (by decide +kernel)
abbrev m_X7_comesIn : fm_Me := (yX7_comesIn, cX7_comesIn, 3, none, RX7)
theorem ce_X7_comesIn : fm_callee m_X7_comesIn 1 := fm_callee_of 1 (fm_mem 1030 (by decide +kernel) (by decide +kernel)) (fm_mem 89 (by decide +kernel) (by decide +kernel)) (by decide +kernel) (by decide +kernel) (by decide)
theorem in_X7_comesIn : Cond.instanceMethod yX7_comesIn ∈ fm_G := fm_mem 1029 (by decide +kernel) (by decide +kernel)
theorem se_X7_comesIn : Cond.selects RX7 yX7_comesIn yX7_comesIn ∈ fm_G := fm_mem 52 (by decide +kernel) (by decide +kernel)
abbrev m_X7_puts : fm_Me := (yX7_puts, cX7_puts, 2, some .int, RX7)
theorem ce_X7_puts : fm_callee m_X7_puts 1 := fm_callee_of 1 (fm_mem 1026 (by decide +kernel) (by decide +kernel)) (fm_mem 89 (by decide +kernel) (by decide +kernel)) (by decide +kernel) (by decide +kernel) (by decide)
theorem in_X7_puts : Cond.instanceMethod yX7_puts ∈ fm_G := fm_mem 1025 (by decide +kernel) (by decide +kernel)
theorem se_X7_puts : Cond.selects RX7 yX7_puts yX7_puts ∈ fm_G := fm_mem 51 (by decide +kernel) (by decide +kernel)
abbrev m_X7_gift : fm_Me := (yX7_gift, cX7_gift, 2, some .int, RX7)
theorem ce_X7_gift : fm_callee m_X7_gift 1 := fm_callee_of 1 (fm_mem 1022 (by decide +kernel) (by decide +kernel)) (fm_mem 89 (by decide +kernel) (by decide +kernel)) (by decide +kernel) (by decide +kernel) (by decide)
theorem in_X7_gift : Cond.instanceMethod yX7_gift ∈ fm_G := fm_mem 1020 (by decide +kernel) (by decide +kernel)
theorem se_X7_gift : Cond.selects RX7 yX7_gift yX7_gift ∈ fm_G := fm_mem 1021 (by decide +kernel) (by decide +kernel)
abbrev m_X7_isEntitled : fm_Me := (yX7_isEntitled, cX7_isEntitled, 2, some .boolean, RX7)
theorem ce_X7_isEntitled : fm_callee m_X7_isEntitled 1 := fm_callee_of 1 (fm_mem 1057 (by decide +kernel) (by decide +kernel)) (fm_mem 89 (by decide +kernel) (by decide +kernel)) (by decide +kernel) (by decide +kernel) (by decide)
theorem in_X7_isEntitled : Cond.instanceMethod yX7_isEntitled ∈ fm_G := fm_mem 1056 (by decide +kernel) (by decide +kernel)
theorem se_X7_isEntitled : Cond.selects RX7 yX7_isEntitled yX7_isEntitled ∈ fm_G := fm_mem 57 (by decide +kernel) (by decide +kernel)
abbrev m_X7_entitledMany : fm_Me := (yX7_entitledMany, cX7_entitledMany, 3, some .int, RX7)
theorem ce_X7_entitledMany : fm_callee m_X7_entitledMany 0 := fm_callee_of 0 (fm_mem 1053 (by decide +kernel) (by decide +kernel)) (fm_mem 89 (by decide +kernel) (by decide +kernel)) (by decide +kernel) (by decide +kernel) (by decide)
theorem in_X7_entitledMany : Cond.instanceMethod yX7_entitledMany ∈ fm_G := fm_mem 1052 (by decide +kernel) (by decide +kernel)
theorem se_X7_entitledMany : Cond.selects RX7 yX7_entitledMany yX7_entitledMany ∈ fm_G := fm_mem 56 (by decide +kernel) (by decide +kernel)
abbrev m_X7_feastComes : fm_Me := (yX7_feastComes, cX7_feastComes, 5, some .int, RX7)
theorem ce_X7_feastComes : fm_callee m_X7_feastComes 0 := fm_callee_of 0 (fm_mem 1049 (by decide +kernel) (by decide +kernel)) (fm_mem 89 (by decide +kernel) (by decide +kernel)) (by decide +kernel) (by decide +kernel) (by decide)
theorem in_X7_feastComes : Cond.instanceMethod yX7_feastComes ∈ fm_G := fm_mem 1048 (by decide +kernel) (by decide +kernel)
theorem se_X7_feastComes : Cond.selects RX7 yX7_feastComes yX7_feastComes ∈ fm_G := fm_mem 55 (by decide +kernel) (by decide +kernel)
abbrev m_X7_isSeniorTo : fm_Me := (yX7_isSeniorTo, cX7_isSeniorTo, 3, some .boolean, RX7)
theorem ce_X7_isSeniorTo : fm_callee m_X7_isSeniorTo 2 := fm_callee_of 2 (fm_mem 1073 (by decide +kernel) (by decide +kernel)) (fm_mem 89 (by decide +kernel) (by decide +kernel)) (by decide +kernel) (by decide +kernel) (by decide)
theorem in_X7_isSeniorTo : Cond.instanceMethod yX7_isSeniorTo ∈ fm_G := fm_mem 1072 (by decide +kernel) (by decide +kernel)
theorem se_X7_isSeniorTo : Cond.selects RX7 yX7_isSeniorTo yX7_isSeniorTo ∈ fm_G := fm_mem 61 (by decide +kernel) (by decide +kernel)
abbrev m_X7_isShabbier : fm_Me := (yX7_isShabbier, cX7_isShabbier, 3, some .boolean, RX7)
theorem ce_X7_isShabbier : fm_callee m_X7_isShabbier 2 := fm_callee_of 2 (fm_mem 1069 (by decide +kernel) (by decide +kernel)) (fm_mem 89 (by decide +kernel) (by decide +kernel)) (by decide +kernel) (by decide +kernel) (by decide)
theorem in_X7_isShabbier : Cond.instanceMethod yX7_isShabbier ∈ fm_G := fm_mem 1068 (by decide +kernel) (by decide +kernel)
theorem se_X7_isShabbier : Cond.selects RX7 yX7_isShabbier yX7_isShabbier ∈ fm_G := fm_mem 60 (by decide +kernel) (by decide +kernel)
abbrev m_X7_shabbyAt : fm_Me := (yX7_shabbyAt, cX7_shabbyAt, 5, some .int, RX7)
theorem ce_X7_shabbyAt : fm_callee m_X7_shabbyAt 1 := fm_callee_of 1 (fm_mem 1065 (by decide +kernel) (by decide +kernel)) (fm_mem 89 (by decide +kernel) (by decide +kernel)) (by decide +kernel) (by decide +kernel) (by decide)
theorem in_X7_shabbyAt : Cond.instanceMethod yX7_shabbyAt ∈ fm_G := fm_mem 1064 (by decide +kernel) (by decide +kernel)
theorem se_X7_shabbyAt : Cond.selects RX7 yX7_shabbyAt yX7_shabbyAt ∈ fm_G := fm_mem 59 (by decide +kernel) (by decide +kernel)
abbrev m_X7_yearBegins : fm_Me := (yX7_yearBegins, cX7_yearBegins, 2, none, RX7)
theorem ce_X7_yearBegins : fm_callee m_X7_yearBegins 0 := fm_callee_of 0 (fm_mem 1061 (by decide +kernel) (by decide +kernel)) (fm_mem 89 (by decide +kernel) (by decide +kernel)) (by decide +kernel) (by decide +kernel) (by decide)
theorem in_X7_yearBegins : Cond.instanceMethod yX7_yearBegins ∈ fm_G := fm_mem 1060 (by decide +kernel) (by decide +kernel)
theorem se_X7_yearBegins : Cond.selects RX7 yX7_yearBegins yX7_yearBegins ∈ fm_G := fm_mem 58 (by decide +kernel) (by decide +kernel)
abbrev m_X7_weekGoes : fm_Me := (yX7_weekGoes, cX7_weekGoes, 3, some .int, RX7)
theorem ce_X7_weekGoes : fm_callee m_X7_weekGoes 0 := fm_callee_of 0 (fm_mem 1045 (by decide +kernel) (by decide +kernel)) (fm_mem 89 (by decide +kernel) (by decide +kernel)) (by decide +kernel) (by decide +kernel) (by decide)
theorem in_X7_weekGoes : Cond.instanceMethod yX7_weekGoes ∈ fm_G := fm_mem 1044 (by decide +kernel) (by decide +kernel)
theorem se_X7_weekGoes : Cond.selects RX7 yX7_weekGoes yX7_weekGoes ∈ fm_G := fm_mem 54 (by decide +kernel) (by decide +kernel)
abbrev m_X7_weeksGo : fm_Me := (yX7_weeksGo, cX7_weeksGo, 4, some .int, RX7)
theorem ce_X7_weeksGo : fm_callee m_X7_weeksGo 1 := fm_callee_of 1 (fm_mem 1041 (by decide +kernel) (by decide +kernel)) (fm_mem 89 (by decide +kernel) (by decide +kernel)) (by decide +kernel) (by decide +kernel) (by decide)
theorem in_X7_weeksGo : Cond.instanceMethod yX7_weeksGo ∈ fm_G := fm_mem 1040 (by decide +kernel) (by decide +kernel)
theorem se_X7_weeksGo : Cond.selects RX7 yX7_weeksGo yX7_weeksGo ∈ fm_G := fm_mem 53 (by decide +kernel) (by decide +kernel)
abbrev m_X7_weeks : fm_Me := (yX7_weeks, cX7_weeks, 2, some .int, RX7)
theorem ce_X7_weeks : fm_callee m_X7_weeks 1 := fm_callee_of 1 (fm_mem 1037 (by decide +kernel) (by decide +kernel)) (fm_mem 89 (by decide +kernel) (by decide +kernel)) (by decide +kernel) (by decide +kernel) (by decide)
theorem in_X7_weeks : Cond.instanceMethod yX7_weeks ∈ fm_G := fm_mem 1035 (by decide +kernel) (by decide +kernel)
theorem se_X7_weeks : Cond.selects RX7 yX7_weeks yX7_weeks ∈ fm_G := fm_mem 1036 (by decide +kernel) (by decide +kernel)
abbrev m_X7_wouldGet : fm_Me := (yX7_wouldGet, cX7_wouldGet, 5, some .int, RX7)
theorem ce_X7_wouldGet : fm_callee m_X7_wouldGet 2 := fm_callee_of 2 (fm_mem 1077 (by decide +kernel) (by decide +kernel)) (fm_mem 89 (by decide +kernel) (by decide +kernel)) (by decide +kernel) (by decide +kernel) (by decide)
theorem in_X7_wouldGet : Cond.instanceMethod yX7_wouldGet ∈ fm_G := fm_mem 1075 (by decide +kernel) (by decide +kernel)
theorem se_X7_wouldGet : Cond.selects RX7 yX7_wouldGet yX7_wouldGet ∈ fm_G := fm_mem 1076 (by decide +kernel) (by decide +kernel)
abbrev m_X7_chestIn : fm_Me := (yX7_chestIn, cX7_chestIn, 3, some .int, RX7)
theorem ce_X7_chestIn : fm_callee m_X7_chestIn 1 := fm_callee_of 1 (fm_mem 1085 (by decide +kernel) (by decide +kernel)) (fm_mem 89 (by decide +kernel) (by decide +kernel)) (by decide +kernel) (by decide +kernel) (by decide)
theorem in_X7_chestIn : Cond.instanceMethod yX7_chestIn ∈ fm_G := fm_mem 1083 (by decide +kernel) (by decide +kernel)
theorem se_X7_chestIn : Cond.selects RX7 yX7_chestIn yX7_chestIn ∈ fm_G := fm_mem 1084 (by decide +kernel) (by decide +kernel)
abbrev m_X7_placeInLine : fm_Me := (yX7_placeInLine, cX7_placeInLine, 4, some .int, RX7)
theorem ce_X7_placeInLine : fm_callee m_X7_placeInLine 1 := fm_callee_of 1 (fm_mem 1097 (by decide +kernel) (by decide +kernel)) (fm_mem 89 (by decide +kernel) (by decide +kernel)) (by decide +kernel) (by decide +kernel) (by decide)
theorem in_X7_placeInLine : Cond.instanceMethod yX7_placeInLine ∈ fm_G := fm_mem 1096 (by decide +kernel) (by decide +kernel)
theorem se_X7_placeInLine : Cond.selects RX7 yX7_placeInLine yX7_placeInLine ∈ fm_G := fm_mem 64 (by decide +kernel) (by decide +kernel)
abbrev m_X7_brokeAll : fm_Me := (yX7_brokeAll, cX7_brokeAll, 4, some .int, RX7)
theorem ce_X7_brokeAll : fm_callee m_X7_brokeAll 1 := fm_callee_of 1 (fm_mem 1093 (by decide +kernel) (by decide +kernel)) (fm_mem 89 (by decide +kernel) (by decide +kernel)) (by decide +kernel) (by decide +kernel) (by decide)
theorem in_X7_brokeAll : Cond.instanceMethod yX7_brokeAll ∈ fm_G := fm_mem 1092 (by decide +kernel) (by decide +kernel)
theorem se_X7_brokeAll : Cond.selects RX7 yX7_brokeAll yX7_brokeAll ∈ fm_G := fm_mem 63 (by decide +kernel) (by decide +kernel)
abbrev m_X7_brotherOf : fm_Me := (yX7_brotherOf, cX7_brotherOf, 3, some .int, RX7)
theorem ce_X7_brotherOf : fm_callee m_X7_brotherOf 2 := fm_callee_of 2 (fm_mem 1089 (by decide +kernel) (by decide +kernel)) (fm_mem 89 (by decide +kernel) (by decide +kernel)) (by decide +kernel) (by decide +kernel) (by decide)
theorem in_X7_brotherOf : Cond.instanceMethod yX7_brotherOf ∈ fm_G := fm_mem 1087 (by decide +kernel) (by decide +kernel)
theorem se_X7_brotherOf : Cond.selects RX7 yX7_brotherOf yX7_brotherOf ∈ fm_G := fm_mem 1088 (by decide +kernel) (by decide +kernel)
abbrev m_X7_broke : fm_Me := (yX7_broke, cX7_broke, 3, some .int, RX7)
theorem ce_X7_broke : fm_callee m_X7_broke 2 := fm_callee_of 2 (fm_mem 1101 (by decide +kernel) (by decide +kernel)) (fm_mem 89 (by decide +kernel) (by decide +kernel)) (by decide +kernel) (by decide +kernel) (by decide)
theorem in_X7_broke : Cond.instanceMethod yX7_broke ∈ fm_G := fm_mem 1099 (by decide +kernel) (by decide +kernel)
theorem se_X7_broke : Cond.selects RX7 yX7_broke yX7_broke ∈ fm_G := fm_mem 1100 (by decide +kernel) (by decide +kernel)
abbrev m_X7_inCell : fm_Me := (yX7_inCell, cX7_inCell, 2, some .int, RX7)
theorem ce_X7_inCell : fm_callee m_X7_inCell 1 := fm_callee_of 1 (fm_mem 1105 (by decide +kernel) (by decide +kernel)) (fm_mem 89 (by decide +kernel) (by decide +kernel)) (by decide +kernel) (by decide +kernel) (by decide)
theorem in_X7_inCell : Cond.instanceMethod yX7_inCell ∈ fm_G := fm_mem 1103 (by decide +kernel) (by decide +kernel)
theorem se_X7_inCell : Cond.selects RX7 yX7_inCell yX7_inCell ∈ fm_G := fm_mem 1104 (by decide +kernel) (by decide +kernel)
abbrev m_X7_entitled : fm_Me := (yX7_entitled, cX7_entitled, 3, some .int, RX7)
theorem ce_X7_entitled : fm_callee m_X7_entitled 0 := fm_callee_of 0 (fm_mem 1109 (by decide +kernel) (by decide +kernel)) (fm_mem 89 (by decide +kernel) (by decide +kernel)) (by decide +kernel) (by decide +kernel) (by decide)
theorem in_X7_entitled : Cond.instanceMethod yX7_entitled ∈ fm_G := fm_mem 1107 (by decide +kernel) (by decide +kernel)
theorem se_X7_entitled : Cond.selects RX7 yX7_entitled yX7_entitled ∈ fm_G := fm_mem 1108 (by decide +kernel) (by decide +kernel)
abbrev m_X7_entitledAgain : fm_Me := (yX7_entitledAgain, cX7_entitledAgain, 4, some .int, RX7)
theorem ce_X7_entitledAgain : fm_callee m_X7_entitledAgain 0 := fm_callee_of 0 (fm_mem 1113 (by decide +kernel) (by decide +kernel)) (fm_mem 89 (by decide +kernel) (by decide +kernel)) (by decide +kernel) (by decide +kernel) (by decide)
theorem in_X7_entitledAgain : Cond.instanceMethod yX7_entitledAgain ∈ fm_G := fm_mem 1111 (by decide +kernel) (by decide +kernel)
theorem se_X7_entitledAgain : Cond.selects RX7 yX7_entitledAgain yX7_entitledAgain ∈ fm_G := fm_mem 1112 (by decide +kernel) (by decide +kernel)
abbrev m_X7_voices : fm_Me := (yX7_voices, cX7_voices, 2, some .int, RX7)
theorem ce_X7_voices : fm_callee m_X7_voices 1 := fm_callee_of 1 (fm_mem 1117 (by decide +kernel) (by decide +kernel)) (fm_mem 89 (by decide +kernel) (by decide +kernel)) (by decide +kernel) (by decide +kernel) (by decide)
theorem in_X7_voices : Cond.instanceMethod yX7_voices ∈ fm_G := fm_mem 1115 (by decide +kernel) (by decide +kernel)
theorem se_X7_voices : Cond.selects RX7 yX7_voices yX7_voices ∈ fm_G := fm_mem 1116 (by decide +kernel) (by decide +kernel)
abbrev m_X7_voicesAgain : fm_Me := (yX7_voicesAgain, cX7_voicesAgain, 4, some .int, RX7)
theorem ce_X7_voicesAgain : fm_callee m_X7_voicesAgain 1 := fm_callee_of 1 (fm_mem 1121 (by decide +kernel) (by decide +kernel)) (fm_mem 89 (by decide +kernel) (by decide +kernel)) (by decide +kernel) (by decide +kernel) (by decide)
theorem in_X7_voicesAgain : Cond.instanceMethod yX7_voicesAgain ∈ fm_G := fm_mem 1119 (by decide +kernel) (by decide +kernel)
theorem se_X7_voicesAgain : Cond.selects RX7 yX7_voicesAgain yX7_voicesAgain ∈ fm_G := fm_mem 1120 (by decide +kernel) (by decide +kernel)
abbrev m_X7_ranked : fm_Me := (yX7_ranked, cX7_ranked, 2, some .int, RX7)
theorem ce_X7_ranked : fm_callee m_X7_ranked 1 := fm_callee_of 1 (fm_mem 1125 (by decide +kernel) (by decide +kernel)) (fm_mem 89 (by decide +kernel) (by decide +kernel)) (by decide +kernel) (by decide +kernel) (by decide)
theorem in_X7_ranked : Cond.instanceMethod yX7_ranked ∈ fm_G := fm_mem 1123 (by decide +kernel) (by decide +kernel)
theorem se_X7_ranked : Cond.selects RX7 yX7_ranked yX7_ranked ∈ fm_G := fm_mem 1124 (by decide +kernel) (by decide +kernel)
abbrev m_X7_senior : fm_Me := (yX7_senior, cX7_senior, 5, some .int, RX7)
theorem ce_X7_senior : fm_callee m_X7_senior 1 := fm_callee_of 1 (fm_mem 1129 (by decide +kernel) (by decide +kernel)) (fm_mem 89 (by decide +kernel) (by decide +kernel)) (by decide +kernel) (by decide +kernel) (by decide)
theorem in_X7_senior : Cond.instanceMethod yX7_senior ∈ fm_G := fm_mem 1127 (by decide +kernel) (by decide +kernel)
theorem se_X7_senior : Cond.selects RX7 yX7_senior yX7_senior ∈ fm_G := fm_mem 1128 (by decide +kernel) (by decide +kernel)
abbrev m_X7_shabby : fm_Me := (yX7_shabby, cX7_shabby, 2, some .int, RX7)
theorem ce_X7_shabby : fm_callee m_X7_shabby 1 := fm_callee_of 1 (fm_mem 1133 (by decide +kernel) (by decide +kernel)) (fm_mem 89 (by decide +kernel) (by decide +kernel)) (by decide +kernel) (by decide +kernel) (by decide)
theorem in_X7_shabby : Cond.instanceMethod yX7_shabby ∈ fm_G := fm_mem 1131 (by decide +kernel) (by decide +kernel)
theorem se_X7_shabby : Cond.selects RX7 yX7_shabby yX7_shabby ∈ fm_G := fm_mem 1132 (by decide +kernel) (by decide +kernel)
abbrev m_X7_nextFeast : fm_Me := (yX7_nextFeast, cX7_nextFeast, 2, some .int, RX7)
theorem ce_X7_nextFeast : fm_callee m_X7_nextFeast 0 := fm_callee_of 0 (fm_mem 1137 (by decide +kernel) (by decide +kernel)) (fm_mem 89 (by decide +kernel) (by decide +kernel)) (by decide +kernel) (by decide +kernel) (by decide)
theorem in_X7_nextFeast : Cond.instanceMethod yX7_nextFeast ∈ fm_G := fm_mem 1135 (by decide +kernel) (by decide +kernel)
theorem se_X7_nextFeast : Cond.selects RX7 yX7_nextFeast yX7_nextFeast ∈ fm_G := fm_mem 1136 (by decide +kernel) (by decide +kernel)
abbrev m_X7_append : fm_Me := (yX7_append, cX7_append, 2, some .int, RX7)
theorem ce_X7_append : fm_callee m_X7_append 1 := fm_callee_of 1 (fm_mem 1141 (by decide +kernel) (by decide +kernel)) (fm_mem 89 (by decide +kernel) (by decide +kernel)) (by decide +kernel) (by decide +kernel) (by decide)
theorem in_X7_append : Cond.instanceMethod yX7_append ∈ fm_G := fm_mem 1139 (by decide +kernel) (by decide +kernel)
theorem se_X7_append : Cond.selects RX7 yX7_append yX7_append ∈ fm_G := fm_mem 1140 (by decide +kernel) (by decide +kernel)
abbrev m_X7_sign : fm_Me := (yX7_sign, cX7_sign, 1, some .int, RX7)
theorem ce_X7_sign : fm_callee m_X7_sign 0 := fm_callee_of 0 (fm_mem 1161 (by decide +kernel) (by decide +kernel)) (fm_mem 89 (by decide +kernel) (by decide +kernel)) (by decide +kernel) (by decide +kernel) (by decide)
theorem in_X7_sign : Cond.instanceMethod yX7_sign ∈ fm_G := fm_mem 1160 (by decide +kernel) (by decide +kernel)
theorem se_X7_sign : Cond.selects RX7 yX7_sign yX7_sign ∈ fm_G := fm_mem 68 (by decide +kernel) (by decide +kernel)
abbrev m_X7_reads : fm_Me := (yX7_reads, cX7_reads, 2, some .boolean, RX7)
theorem ce_X7_reads : fm_callee m_X7_reads 1 := fm_callee_of 1 (fm_mem 1157 (by decide +kernel) (by decide +kernel)) (fm_mem 89 (by decide +kernel) (by decide +kernel)) (by decide +kernel) (by decide +kernel) (by decide)
theorem in_X7_reads : Cond.instanceMethod yX7_reads ∈ fm_G := fm_mem 1156 (by decide +kernel) (by decide +kernel)
theorem se_X7_reads : Cond.selects RX7 yX7_reads yX7_reads ∈ fm_G := fm_mem 67 (by decide +kernel) (by decide +kernel)
abbrev m_X7_readsNumber : fm_Me := (yX7_readsNumber, cX7_readsNumber, 4, some .boolean, RX7)
theorem ce_X7_readsNumber : fm_callee m_X7_readsNumber 2 := fm_callee_of 2 (fm_mem 1169 (by decide +kernel) (by decide +kernel)) (fm_mem 89 (by decide +kernel) (by decide +kernel)) (by decide +kernel) (by decide +kernel) (by decide)
theorem in_X7_readsNumber : Cond.instanceMethod yX7_readsNumber ∈ fm_G := fm_mem 1168 (by decide +kernel) (by decide +kernel)
theorem se_X7_readsNumber : Cond.selects RX7 yX7_readsNumber yX7_readsNumber ∈ fm_G := fm_mem 70 (by decide +kernel) (by decide +kernel)
abbrev m_X7_readsTwo : fm_Me := (yX7_readsTwo, cX7_readsTwo, 4, some .boolean, RX7)
theorem ce_X7_readsTwo : fm_callee m_X7_readsTwo 3 := fm_callee_of 3 (fm_mem 1165 (by decide +kernel) (by decide +kernel)) (fm_mem 89 (by decide +kernel) (by decide +kernel)) (by decide +kernel) (by decide +kernel) (by decide)
theorem in_X7_readsTwo : Cond.instanceMethod yX7_readsTwo ∈ fm_G := fm_mem 1164 (by decide +kernel) (by decide +kernel)
theorem se_X7_readsTwo : Cond.selects RX7 yX7_readsTwo yX7_readsTwo ∈ fm_G := fm_mem 69 (by decide +kernel) (by decide +kernel)
abbrev m_X7_readsOrder : fm_Me := (yX7_readsOrder, cX7_readsOrder, 1, some .boolean, RX7)
theorem ce_X7_readsOrder : fm_callee m_X7_readsOrder 0 := fm_callee_of 0 (fm_mem 1153 (by decide +kernel) (by decide +kernel)) (fm_mem 89 (by decide +kernel) (by decide +kernel)) (by decide +kernel) (by decide +kernel) (by decide)
theorem in_X7_readsOrder : Cond.instanceMethod yX7_readsOrder ∈ fm_G := fm_mem 1152 (by decide +kernel) (by decide +kernel)
theorem se_X7_readsOrder : Cond.selects RX7 yX7_readsOrder yX7_readsOrder ∈ fm_G := fm_mem 66 (by decide +kernel) (by decide +kernel)
abbrev m_X7_readsAll : fm_Me := (yX7_readsAll, cX7_readsAll, 2, some .boolean, RX7)
theorem ce_X7_readsAll : fm_callee m_X7_readsAll 0 := fm_callee_of 0 (fm_mem 1149 (by decide +kernel) (by decide +kernel)) (fm_mem 89 (by decide +kernel) (by decide +kernel)) (by decide +kernel) (by decide +kernel) (by decide)
theorem in_X7_readsAll : Cond.instanceMethod yX7_readsAll ∈ fm_G := fm_mem 1148 (by decide +kernel) (by decide +kernel)
theorem se_X7_readsAll : Cond.selects RX7 yX7_readsAll yX7_readsAll ∈ fm_G := fm_mem 65 (by decide +kernel) (by decide +kernel)
abbrev m_X7_notNow : fm_Me := (yX7_notNow, cX7_notNow, 3, some .int, RX7)
theorem ce_X7_notNow : fm_callee m_X7_notNow 0 := fm_callee_of 0 (fm_mem 1177 (by decide +kernel) (by decide +kernel)) (fm_mem 89 (by decide +kernel) (by decide +kernel)) (by decide +kernel) (by decide +kernel) (by decide)
theorem in_X7_notNow : Cond.instanceMethod yX7_notNow ∈ fm_G := fm_mem 1176 (by decide +kernel) (by decide +kernel)
theorem se_X7_notNow : Cond.selects RX7 yX7_notNow yX7_notNow ∈ fm_G := fm_mem 72 (by decide +kernel) (by decide +kernel)
abbrev m_X7_doesNow : fm_Me := (yX7_doesNow, cX7_doesNow, 3, some .int, RX7)
theorem ce_X7_doesNow : fm_callee m_X7_doesNow 0 := fm_callee_of 0 (fm_mem 1181 (by decide +kernel) (by decide +kernel)) (fm_mem 89 (by decide +kernel) (by decide +kernel)) (by decide +kernel) (by decide +kernel) (by decide)
theorem in_X7_doesNow : Cond.instanceMethod yX7_doesNow ∈ fm_G := fm_mem 1180 (by decide +kernel) (by decide +kernel)
theorem se_X7_doesNow : Cond.selects RX7 yX7_doesNow yX7_doesNow ∈ fm_G := fm_mem 73 (by decide +kernel) (by decide +kernel)
abbrev m_X7_doesAll : fm_Me := (yX7_doesAll, cX7_doesAll, 2, some .boolean, RX7)
theorem ce_X7_doesAll : fm_callee m_X7_doesAll 0 := fm_callee_of 0 (fm_mem 1173 (by decide +kernel) (by decide +kernel)) (fm_mem 89 (by decide +kernel) (by decide +kernel)) (by decide +kernel) (by decide +kernel) (by decide)
theorem in_X7_doesAll : Cond.instanceMethod yX7_doesAll ∈ fm_G := fm_mem 1172 (by decide +kernel) (by decide +kernel)
theorem se_X7_doesAll : Cond.selects RX7 yX7_doesAll yX7_doesAll ∈ fm_G := fm_mem 71 (by decide +kernel) (by decide +kernel)
abbrev m_X7_run : fm_Me := (yX7_run, cX7_run, 2, some .int, RX7)
theorem ce_X7_run : fm_callee m_X7_run 0 := fm_callee_of 0 (fm_mem 1145 (by decide +kernel) (by decide +kernel)) (fm_mem 89 (by decide +kernel) (by decide +kernel)) (by decide +kernel) (by decide +kernel) (by decide)
theorem in_X7_run : Cond.instanceMethod yX7_run ∈ fm_G := fm_mem 1143 (by decide +kernel) (by decide +kernel)
theorem se_X7_run : Cond.selects RX7 yX7_run yX7_run ∈ fm_G := fm_mem 1144 (by decide +kernel) (by decide +kernel)
abbrev m_X7_writes : fm_Me := (yX7_writes, cX7_writes, 2, none, RX7)
theorem ce_X7_writes : fm_callee m_X7_writes 1 := fm_callee_of 1 (fm_mem 1189 (by decide +kernel) (by decide +kernel)) (fm_mem 89 (by decide +kernel) (by decide +kernel)) (by decide +kernel) (by decide +kernel) (by decide)
theorem in_X7_writes : Cond.instanceMethod yX7_writes ∈ fm_G := fm_mem 1188 (by decide +kernel) (by decide +kernel)
theorem se_X7_writes : Cond.selects RX7 yX7_writes yX7_writes ∈ fm_G := fm_mem 74 (by decide +kernel) (by decide +kernel)
abbrev m_X7_writesNumber : fm_Me := (yX7_writesNumber, cX7_writesNumber, 2, none, RX7)
theorem ce_X7_writesNumber : fm_callee m_X7_writesNumber 1 := fm_callee_of 1 (fm_mem 1197 (by decide +kernel) (by decide +kernel)) (fm_mem 89 (by decide +kernel) (by decide +kernel)) (by decide +kernel) (by decide +kernel) (by decide)
theorem in_X7_writesNumber : Cond.instanceMethod yX7_writesNumber ∈ fm_G := fm_mem 1196 (by decide +kernel) (by decide +kernel)
theorem se_X7_writesNumber : Cond.selects RX7 yX7_writesNumber yX7_writesNumber ∈ fm_G := fm_mem 76 (by decide +kernel) (by decide +kernel)
abbrev m_X7_writesCell : fm_Me := (yX7_writesCell, cX7_writesCell, 3, none, RX7)
theorem ce_X7_writesCell : fm_callee m_X7_writesCell 1 := fm_callee_of 1 (fm_mem 1193 (by decide +kernel) (by decide +kernel)) (fm_mem 89 (by decide +kernel) (by decide +kernel)) (by decide +kernel) (by decide +kernel) (by decide)
theorem in_X7_writesCell : Cond.instanceMethod yX7_writesCell ∈ fm_G := fm_mem 1192 (by decide +kernel) (by decide +kernel)
theorem se_X7_writesCell : Cond.selects RX7 yX7_writesCell yX7_writesCell ∈ fm_G := fm_mem 75 (by decide +kernel) (by decide +kernel)
abbrev m_X7_tell : fm_Me := (yX7_tell, cX7_tell, 2, some .int, RX7)
theorem ce_X7_tell : fm_callee m_X7_tell 0 := fm_callee_of 0 (fm_mem 1185 (by decide +kernel) (by decide +kernel)) (fm_mem 89 (by decide +kernel) (by decide +kernel)) (by decide +kernel) (by decide +kernel) (by decide)
theorem in_X7_tell : Cond.instanceMethod yX7_tell ∈ fm_G := fm_mem 1183 (by decide +kernel) (by decide +kernel)
theorem se_X7_tell : Cond.selects RX7 yX7_tell yX7_tell ∈ fm_G := fm_mem 1184 (by decide +kernel) (by decide +kernel)
abbrev m_X7_inLine : fm_Me := (yX7_inLine, cX7_inLine, 3, some .int, RX7)
theorem ce_X7_inLine : fm_callee m_X7_inLine 1 := fm_callee_of 1 (fm_mem 1205 (by decide +kernel) (by decide +kernel)) (fm_mem 89 (by decide +kernel) (by decide +kernel)) (by decide +kernel) (by decide +kernel) (by decide)
theorem in_X7_inLine : Cond.instanceMethod yX7_inLine ∈ fm_G := fm_mem 1204 (by decide +kernel) (by decide +kernel)
theorem se_X7_inLine : Cond.selects RX7 yX7_inLine yX7_inLine ∈ fm_G := fm_mem 77 (by decide +kernel) (by decide +kernel)
abbrev m_X7_tellWaiting : fm_Me := (yX7_tellWaiting, cX7_tellWaiting, 3, some .int, RX7)
theorem ce_X7_tellWaiting : fm_callee m_X7_tellWaiting 0 := fm_callee_of 0 (fm_mem 1201 (by decide +kernel) (by decide +kernel)) (fm_mem 89 (by decide +kernel) (by decide +kernel)) (by decide +kernel) (by decide +kernel) (by decide)
theorem in_X7_tellWaiting : Cond.instanceMethod yX7_tellWaiting ∈ fm_G := fm_mem 1199 (by decide +kernel) (by decide +kernel)
theorem se_X7_tellWaiting : Cond.selects RX7 yX7_tellWaiting yX7_tellWaiting ∈ fm_G := fm_mem 1200 (by decide +kernel) (by decide +kernel)
abbrev m_X7_character : fm_Me := (yX7_character, cX7_character, 2, some .int, RX7)
theorem ce_X7_character : fm_callee m_X7_character 1 := fm_callee_of 1 (fm_mem 1209 (by decide +kernel) (by decide +kernel)) (fm_mem 89 (by decide +kernel) (by decide +kernel)) (by decide +kernel) (by decide +kernel) (by decide)
theorem in_X7_character : Cond.instanceMethod yX7_character ∈ fm_G := fm_mem 1207 (by decide +kernel) (by decide +kernel)
theorem se_X7_character : Cond.selects RX7 yX7_character yX7_character ∈ fm_G := fm_mem 1208 (by decide +kernel) (by decide +kernel)
abbrev m_X7_banned : fm_Me := (yX7_banned, cX7_banned, 3, some .int, RX7)
theorem ce_X7_banned : fm_callee m_X7_banned 0 := fm_callee_of 0 (fm_mem 1217 (by decide +kernel) (by decide +kernel)) (fm_mem 89 (by decide +kernel) (by decide +kernel)) (by decide +kernel) (by decide +kernel) (by decide)
theorem in_X7_banned : Cond.instanceMethod yX7_banned ∈ fm_G := fm_mem 1216 (by decide +kernel) (by decide +kernel)
theorem se_X7_banned : Cond.selects RX7 yX7_banned yX7_banned ∈ fm_G := fm_mem 78 (by decide +kernel) (by decide +kernel)
abbrev m_X7_gotAll : fm_Me := (yX7_gotAll, cX7_gotAll, 3, some .int, RX7)
theorem ce_X7_gotAll : fm_callee m_X7_gotAll 0 := fm_callee_of 0 (fm_mem 1225 (by decide +kernel) (by decide +kernel)) (fm_mem 89 (by decide +kernel) (by decide +kernel)) (by decide +kernel) (by decide +kernel) (by decide)
theorem in_X7_gotAll : Cond.instanceMethod yX7_gotAll ∈ fm_G := fm_mem 1224 (by decide +kernel) (by decide +kernel)
theorem se_X7_gotAll : Cond.selects RX7 yX7_gotAll yX7_gotAll ∈ fm_G := fm_mem 79 (by decide +kernel) (by decide +kernel)
abbrev m_X7_account : fm_Me := (yX7_account, cX7_account, 2, some .int, RX7)
theorem ce_X7_account : fm_callee m_X7_account 1 := fm_callee_of 1 (fm_mem 1213 (by decide +kernel) (by decide +kernel)) (fm_mem 89 (by decide +kernel) (by decide +kernel)) (by decide +kernel) (by decide +kernel) (by decide)
theorem in_X7_account : Cond.instanceMethod yX7_account ∈ fm_G := fm_mem 1211 (by decide +kernel) (by decide +kernel)
theorem se_X7_account : Cond.selects RX7 yX7_account yX7_account ∈ fm_G := fm_mem 1212 (by decide +kernel) (by decide +kernel)
abbrev m_X7_isBalanced : fm_Me := (yX7_isBalanced, cX7_isBalanced, 4, some .int, RX7)
theorem ce_X7_isBalanced : fm_callee m_X7_isBalanced 0 := fm_callee_of 0 (fm_mem 1221 (by decide +kernel) (by decide +kernel)) (fm_mem 89 (by decide +kernel) (by decide +kernel)) (by decide +kernel) (by decide +kernel) (by decide)
theorem in_X7_isBalanced : Cond.instanceMethod yX7_isBalanced ∈ fm_G := fm_mem 1219 (by decide +kernel) (by decide +kernel)
theorem se_X7_isBalanced : Cond.selects RX7 yX7_isBalanced yX7_isBalanced ∈ fm_G := fm_mem 1220 (by decide +kernel) (by decide +kernel)
abbrev m_X7_meanAge : fm_Me := (yX7_meanAge, cX7_meanAge, 4, some .double, RX7)
theorem ce_X7_meanAge : fm_callee m_X7_meanAge 0 := fm_callee_of 0 (fm_mem 1229 (by decide +kernel) (by decide +kernel)) (fm_mem 89 (by decide +kernel) (by decide +kernel)) (by decide +kernel) (by decide +kernel) (by decide)
theorem in_X7_meanAge : Cond.instanceMethod yX7_meanAge ∈ fm_G := fm_mem 1227 (by decide +kernel) (by decide +kernel)
theorem se_X7_meanAge : Cond.selects RX7 yX7_meanAge yX7_meanAge ∈ fm_G := fm_mem 1228 (by decide +kernel) (by decide +kernel)
abbrev m_X7_entitledShare : fm_Me := (yX7_entitledShare, cX7_entitledShare, 2, some .float, RX7)
theorem ce_X7_entitledShare : fm_callee m_X7_entitledShare 0 := fm_callee_of 0 (fm_mem 1233 (by decide +kernel) (by decide +kernel)) (fm_mem 89 (by decide +kernel) (by decide +kernel)) (by decide +kernel) (by decide +kernel) (by decide)
theorem in_X7_entitledShare : Cond.instanceMethod yX7_entitledShare ∈ fm_G := fm_mem 1231 (by decide +kernel) (by decide +kernel)
theorem se_X7_entitledShare : Cond.selects RX7 yX7_entitledShare yX7_entitledShare ∈ fm_G := fm_mem 1232 (by decide +kernel) (by decide +kernel)
abbrev m_X7_undo : fm_Me := (yX7_undo, cX7_undo, 3, some .int, RX7)
theorem ce_X7_undo : fm_callee m_X7_undo 0 := fm_callee_of 0 (fm_mem 1237 (by decide +kernel) (by decide +kernel)) (fm_mem 89 (by decide +kernel) (by decide +kernel)) (by decide +kernel) (by decide +kernel) (by decide)
theorem in_X7_undo : Cond.instanceMethod yX7_undo ∈ fm_G := fm_mem 1235 (by decide +kernel) (by decide +kernel)
theorem se_X7_undo : Cond.selects RX7 yX7_undo yX7_undo ∈ fm_G := fm_mem 1236 (by decide +kernel) (by decide +kernel)
abbrev m_X7_save : fm_Me := (yX7_save, cX7_save, 2, some .int, RX7)
theorem ce_X7_save : fm_callee m_X7_save 0 := fm_callee_of 0 (fm_mem 1241 (by decide +kernel) (by decide +kernel)) (fm_mem 89 (by decide +kernel) (by decide +kernel)) (by decide +kernel) (by decide +kernel) (by decide)
theorem in_X7_save : Cond.instanceMethod yX7_save ∈ fm_G := fm_mem 1239 (by decide +kernel) (by decide +kernel)
theorem se_X7_save : Cond.selects RX7 yX7_save yX7_save ∈ fm_G := fm_mem 1240 (by decide +kernel) (by decide +kernel)
abbrev m_X7_restore : fm_Me := (yX7_restore, cX7_restore, 2, some .int, RX7)
theorem ce_X7_restore : fm_callee m_X7_restore 0 := fm_callee_of 0 (fm_mem 1245 (by decide +kernel) (by decide +kernel)) (fm_mem 89 (by decide +kernel) (by decide +kernel)) (by decide +kernel) (by decide +kernel) (by decide)
theorem in_X7_restore : Cond.instanceMethod yX7_restore ∈ fm_G := fm_mem 1243 (by decide +kernel) (by decide +kernel)
theorem se_X7_restore : Cond.selects RX7 yX7_restore yX7_restore ∈ fm_G := fm_mem 1244 (by decide +kernel) (by decide +kernel)
theorem lk_X0_12 : Cond.fieldLink RX0 12 (TX0 0).1 (TX0 0).2.1 (TX0 0).2.2.1 ∈ fm_G := fm_mem 140 (by decide +kernel) (by decide +kernel)
theorem lk_X0_21 : Cond.fieldLink RX0 21 (TX0 1).1 (TX0 1).2.1 (TX0 1).2.2.1 ∈ fm_G := fm_mem 141 (by decide +kernel) (by decide +kernel)
theorem lk_X0_25 : Cond.fieldLink RX0 25 (TX0 2).1 (TX0 2).2.1 (TX0 2).2.2.1 ∈ fm_G := fm_mem 142 (by decide +kernel) (by decide +kernel)
theorem lk_X0_29 : Cond.fieldLink RX0 29 (TX0 3).1 (TX0 3).2.1 (TX0 3).2.2.1 ∈ fm_G := fm_mem 143 (by decide +kernel) (by decide +kernel)
theorem lk_X1_9 : Cond.fieldLink RX1 9 (TX1 0).1 (TX1 0).2.1 (TX1 0).2.2.1 ∈ fm_G := fm_mem 161 (by decide +kernel) (by decide +kernel)
theorem lk_X1_15 : Cond.fieldLink RX1 15 (TX1 1).1 (TX1 1).2.1 (TX1 1).2.2.1 ∈ fm_G := fm_mem 162 (by decide +kernel) (by decide +kernel)
theorem lk_X1_19 : Cond.fieldLink RX1 19 (TX1 2).1 (TX1 2).2.1 (TX1 2).2.2.1 ∈ fm_G := fm_mem 163 (by decide +kernel) (by decide +kernel)
theorem lk_X2_9 : Cond.fieldLink RX2 9 (TX2 0).1 (TX2 0).2.1 (TX2 0).2.2.1 ∈ fm_G := fm_mem 177 (by decide +kernel) (by decide +kernel)
theorem lk_X2_15 : Cond.fieldLink RX2 15 (TX2 1).1 (TX2 1).2.1 (TX2 1).2.2.1 ∈ fm_G := fm_mem 178 (by decide +kernel) (by decide +kernel)
theorem lk_X2_18 : Cond.fieldLink RX2 18 (TX2 2).1 (TX2 2).2.1 (TX2 2).2.2.1 ∈ fm_G := fm_mem 179 (by decide +kernel) (by decide +kernel)
theorem lk_X2_21 : Cond.fieldLink RX2 21 (TX2 3).1 (TX2 3).2.1 (TX2 3).2.2.1 ∈ fm_G := fm_mem 180 (by decide +kernel) (by decide +kernel)
theorem lk_X2_25 : Cond.fieldLink RX2 25 (TX2 4).1 (TX2 4).2.1 (TX2 4).2.2.1 ∈ fm_G := fm_mem 181 (by decide +kernel) (by decide +kernel)
theorem lk_X2_28 : Cond.fieldLink RX2 28 (TX2 5).1 (TX2 5).2.1 (TX2 5).2.2.1 ∈ fm_G := fm_mem 182 (by decide +kernel) (by decide +kernel)
theorem lk_X3_9 : Cond.fieldLink RX3 9 (TX3 0).1 (TX3 0).2.1 (TX3 0).2.2.1 ∈ fm_G := fm_mem 136 (by decide +kernel) (by decide +kernel)
theorem lk_X4_7 : Cond.fieldLink RX4 7 (TX4 1).1 (TX4 1).2.1 (TX4 1).2.2.1 ∈ fm_G := fm_mem 206 (by decide +kernel) (by decide +kernel)
theorem lk_X4_19 : Cond.fieldLink RX4 19 (TX4 0).1 (TX4 0).2.1 (TX4 0).2.2.1 ∈ fm_G := fm_mem 205 (by decide +kernel) (by decide +kernel)
theorem lk_X5_9 : Cond.fieldLink RX5 9 (TX5 0).1 (TX5 0).2.1 (TX5 0).2.2.1 ∈ fm_G := fm_mem 117 (by decide +kernel) (by decide +kernel)
theorem lk_X6_12 : Cond.fieldLink RX6 12 (TX6 0).1 (TX6 0).2.1 (TX6 0).2.2.1 ∈ fm_G := fm_mem 212 (by decide +kernel) (by decide +kernel)
theorem lk_X6_16 : Cond.fieldLink RX6 16 (TX6 1).1 (TX6 1).2.1 (TX6 1).2.2.1 ∈ fm_G := fm_mem 213 (by decide +kernel) (by decide +kernel)
theorem lk_X6_22 : Cond.fieldLink RX6 22 (TX6 2).1 (TX6 2).2.1 (TX6 2).2.2.1 ∈ fm_G := fm_mem 214 (by decide +kernel) (by decide +kernel)
theorem lk_X6_29 : Cond.fieldLink RX6 29 (TX6 3).1 (TX6 3).2.1 (TX6 3).2.2.1 ∈ fm_G := fm_mem 215 (by decide +kernel) (by decide +kernel)
theorem lk_X6_36 : Cond.fieldLink RX6 36 (TX6 4).1 (TX6 4).2.1 (TX6 4).2.2.1 ∈ fm_G := fm_mem 216 (by decide +kernel) (by decide +kernel)
theorem lk_X6_52 : Cond.fieldLink RX6 52 (TX6 6).1 (TX6 6).2.1 (TX6 6).2.2.1 ∈ fm_G := fm_mem 218 (by decide +kernel) (by decide +kernel)
theorem lk_X6_56 : Cond.fieldLink RX6 56 (TX6 7).1 (TX6 7).2.1 (TX6 7).2.2.1 ∈ fm_G := fm_mem 219 (by decide +kernel) (by decide +kernel)
theorem lk_X6_59 : Cond.fieldLink RX6 59 (TX6 8).1 (TX6 8).2.1 (TX6 8).2.2.1 ∈ fm_G := fm_mem 220 (by decide +kernel) (by decide +kernel)
theorem lk_X6_63 : Cond.fieldLink RX6 63 (TX6 9).1 (TX6 9).2.1 (TX6 9).2.2.1 ∈ fm_G := fm_mem 221 (by decide +kernel) (by decide +kernel)
theorem lk_X6_67 : Cond.fieldLink RX6 67 (TX6 10).1 (TX6 10).2.1 (TX6 10).2.2.1 ∈ fm_G := fm_mem 222 (by decide +kernel) (by decide +kernel)
theorem lk_X6_71 : Cond.fieldLink RX6 71 (TX6 11).1 (TX6 11).2.1 (TX6 11).2.2.1 ∈ fm_G := fm_mem 223 (by decide +kernel) (by decide +kernel)
theorem lk_X7_7 : Cond.fieldLink RX7 7 (TX7 4).1 (TX7 4).2.1 (TX7 4).2.2.1 ∈ fm_G := fm_mem 799 (by decide +kernel) (by decide +kernel)
theorem lk_X7_13 : Cond.fieldLink RX7 13 (TX7 5).1 (TX7 5).2.1 (TX7 5).2.2.1 ∈ fm_G := fm_mem 800 (by decide +kernel) (by decide +kernel)
theorem lk_X7_16 : Cond.fieldLink RX7 16 (TX7 6).1 (TX7 6).2.1 (TX7 6).2.2.1 ∈ fm_G := fm_mem 801 (by decide +kernel) (by decide +kernel)
theorem lk_X7_19 : Cond.fieldLink RX7 19 (TX7 7).1 (TX7 7).2.1 (TX7 7).2.2.1 ∈ fm_G := fm_mem 802 (by decide +kernel) (by decide +kernel)
theorem lk_X7_22 : Cond.fieldLink RX7 22 (TX7 11).1 (TX7 11).2.1 (TX7 11).2.2.1 ∈ fm_G := fm_mem 806 (by decide +kernel) (by decide +kernel)
theorem lk_X7_25 : Cond.fieldLink RX7 25 (TX7 12).1 (TX7 12).2.1 (TX7 12).2.2.1 ∈ fm_G := fm_mem 807 (by decide +kernel) (by decide +kernel)
theorem lk_X7_29 : Cond.fieldLink RX7 29 (TX7 15).1 (TX7 15).2.1 (TX7 15).2.2.1 ∈ fm_G := fm_mem 810 (by decide +kernel) (by decide +kernel)
theorem lk_X7_32 : Cond.fieldLink RX7 32 (TX7 18).1 (TX7 18).2.1 (TX7 18).2.2.1 ∈ fm_G := fm_mem 813 (by decide +kernel) (by decide +kernel)
theorem lk_X7_35 : Cond.fieldLink RX7 35 (TX7 2).1 (TX7 2).2.1 (TX7 2).2.2.1 ∈ fm_G := fm_mem 797 (by decide +kernel) (by decide +kernel)
theorem lk_X7_39 : Cond.fieldLink RX7 39 (TX7 3).1 (TX7 3).2.1 (TX7 3).2.2.1 ∈ fm_G := fm_mem 798 (by decide +kernel) (by decide +kernel)
theorem lk_X7_42 : Cond.fieldLink RX7 42 (TX7 0).1 (TX7 0).2.1 (TX7 0).2.2.1 ∈ fm_G := fm_mem 795 (by decide +kernel) (by decide +kernel)
theorem lk_X7_45 : Cond.fieldLink RX7 45 (TX7 1).1 (TX7 1).2.1 (TX7 1).2.2.1 ∈ fm_G := fm_mem 796 (by decide +kernel) (by decide +kernel)
theorem lk_X7_48 : Cond.fieldLink RX7 48 (TX7 8).1 (TX7 8).2.1 (TX7 8).2.2.1 ∈ fm_G := fm_mem 803 (by decide +kernel) (by decide +kernel)
theorem lk_X7_51 : Cond.fieldLink RX7 51 (TX7 9).1 (TX7 9).2.1 (TX7 9).2.2.1 ∈ fm_G := fm_mem 804 (by decide +kernel) (by decide +kernel)
theorem lk_X7_204 : Cond.fieldLink RX7 204 (TX7 13).1 (TX7 13).2.1 (TX7 13).2.2.1 ∈ fm_G := fm_mem 808 (by decide +kernel) (by decide +kernel)
theorem lk_X7_207 : Cond.fieldLink RX7 207 (TX7 14).1 (TX7 14).2.1 (TX7 14).2.2.1 ∈ fm_G := fm_mem 809 (by decide +kernel) (by decide +kernel)
theorem lk_X7_216 : Cond.fieldLink RX7 216 (TX7 16).1 (TX7 16).2.1 (TX7 16).2.2.1 ∈ fm_G := fm_mem 811 (by decide +kernel) (by decide +kernel)
theorem lk_X7_229 : Cond.fieldLink RX7 229 (TX7 17).1 (TX7 17).2.1 (TX7 17).2.2.1 ∈ fm_G := fm_mem 812 (by decide +kernel) (by decide +kernel)
theorem lk_X7_244 : Cond.fieldLink RX7 244 (TX7 19).1 (TX7 19).2.1 (TX7 19).2.2.1 ∈ fm_G := fm_mem 814 (by decide +kernel) (by decide +kernel)
theorem lk_X7_265 : Cond.fieldLink RX7 265 (TX7 10).1 (TX7 10).2.1 (TX7 10).2.2.1 ∈ fm_G := fm_mem 805 (by decide +kernel) (by decide +kernel)
theorem ml_X0_32 : Cond.methodLink RX0 32 yX5_copyFrom ∈ fm_G := fm_mem 261 (by decide +kernel) (by decide +kernel)
theorem ml_X0_36 : Cond.methodLink RX0 36 yX5_get ∈ fm_G := fm_mem 275 (by decide +kernel) (by decide +kernel)
theorem ml_X0_40 : Cond.methodLink RX0 40 yX0_refuse ∈ fm_G := fm_mem 279 (by decide +kernel) (by decide +kernel)
theorem ml_X0_44 : Cond.methodLink RX0 44 yX5_set ∈ fm_G := fm_mem 283 (by decide +kernel) (by decide +kernel)
theorem ml_X0_48 : Cond.methodLink RX0 48 yX5_setOf ∈ fm_G := fm_mem 284 (by decide +kernel) (by decide +kernel)
theorem ml_X0_52 : Cond.methodLink RX0 52 yX5_isBrother ∈ fm_G := fm_mem 319 (by decide +kernel) (by decide +kernel)
theorem ml_X0_56 : Cond.methodLink RX0 56 yX5_is ∈ fm_G := fm_mem 324 (by decide +kernel) (by decide +kernel)
theorem ml_X0_60 : Cond.methodLink RX0 60 yX5_of ∈ fm_G := fm_mem 332 (by decide +kernel) (by decide +kernel)
theorem ml_X0_63 : Cond.methodLink RX0 63 yX0_dropVoicesFor ∈ fm_G := fm_mem 333 (by decide +kernel) (by decide +kernel)
theorem ml_X0_67 : Cond.methodLink RX0 67 yX5_howMany ∈ fm_G := fm_mem 337 (by decide +kernel) (by decide +kernel)
theorem ml_X0_70 : Cond.methodLink RX0 70 yX5_voicesFor ∈ fm_G := fm_mem 350 (by decide +kernel) (by decide +kernel)
theorem ml_X0_76 : Cond.methodLink RX0 76 yX3_byVoices ∈ fm_G := fm_mem 365 (by decide +kernel) (by decide +kernel)
theorem ml_X0_80 : Cond.methodLink RX0 80 yX0_moveOut ∈ fm_G := fm_mem 383 (by decide +kernel) (by decide +kernel)
theorem ml_X0_83 : Cond.methodLink RX0 83 yX5_pittanceIn ∈ fm_G := fm_mem 395 (by decide +kernel) (by decide +kernel)
theorem ml_X0_86 : Cond.methodLink RX0 86 yX5_feastsTold ∈ fm_G := fm_mem 399 (by decide +kernel) (by decide +kernel)
theorem ml_X0_93 : Cond.methodLink RX0 93 yX5_takeIn ∈ fm_G := fm_mem 431 (by decide +kernel) (by decide +kernel)
theorem ml_X0_96 : Cond.methodLink RX0 96 yX0_after ∈ fm_G := fm_mem 443 (by decide +kernel) (by decide +kernel)
theorem ml_X0_100 : Cond.methodLink RX0 100 yX5_entitledMany ∈ fm_G := fm_mem 447 (by decide +kernel) (by decide +kernel)
theorem ml_X0_103 : Cond.methodLink RX0 103 yX0_payFeast ∈ fm_G := fm_mem 455 (by decide +kernel) (by decide +kernel)
theorem ml_X0_106 : Cond.methodLink RX0 106 yX0_shortenBans ∈ fm_G := fm_mem 461 (by decide +kernel) (by decide +kernel)
theorem ml_X0_109 : Cond.methodLink RX0 109 yX0_beginYear ∈ fm_G := fm_mem 465 (by decide +kernel) (by decide +kernel)
theorem ml_X0_112 : Cond.methodLink RX0 112 yX0_buyGowns ∈ fm_G := fm_mem 469 (by decide +kernel) (by decide +kernel)
theorem ml_X0_115 : Cond.methodLink RX0 115 yX0_giveVoice ∈ fm_G := fm_mem 694 (by decide +kernel) (by decide +kernel)
theorem ml_X0_118 : Cond.methodLink RX0 118 yX0_fillCell ∈ fm_G := fm_mem 695 (by decide +kernel) (by decide +kernel)
theorem ml_X0_121 : Cond.methodLink RX0 121 yX0_emptyCell ∈ fm_G := fm_mem 696 (by decide +kernel) (by decide +kernel)
theorem ml_X0_124 : Cond.methodLink RX0 124 yX0_breakRule ∈ fm_G := fm_mem 697 (by decide +kernel) (by decide +kernel)
theorem ml_X0_127 : Cond.methodLink RX0 127 yX0_endBan ∈ fm_G := fm_mem 698 (by decide +kernel) (by decide +kernel)
theorem ml_X0_130 : Cond.methodLink RX0 130 yX0_setFeast ∈ fm_G := fm_mem 699 (by decide +kernel) (by decide +kernel)
theorem ml_X0_133 : Cond.methodLink RX0 133 yX0_takeGift ∈ fm_G := fm_mem 700 (by decide +kernel) (by decide +kernel)
theorem ml_X0_136 : Cond.methodLink RX0 136 yX0_spendWeeks ∈ fm_G := fm_mem 701 (by decide +kernel) (by decide +kernel)
theorem ml_X0_139 : Cond.methodLink RX0 139 Lib.Math.min.name ∈ fm_G := fm_mem 459 (by decide +kernel) (by decide +kernel)
theorem ml_X0_144 : Cond.methodLink RX0 144 yX5_isEntitled ∈ fm_G := fm_mem 460 (by decide +kernel) (by decide +kernel)
theorem ml_X0_147 : Cond.methodLink RX0 147 yX3_byGown ∈ fm_G := fm_mem 473 (by decide +kernel) (by decide +kernel)
theorem ml_X1_22 : Cond.methodLink RX1 22 yX5_copyTo ∈ fm_G := fm_mem 293 (by decide +kernel) (by decide +kernel)
theorem ml_X1_28 : Cond.methodLink RX1 28 Lib.Math.min.name ∈ fm_G := fm_mem 297 (by decide +kernel) (by decide +kernel)
theorem ml_X1_34 : Cond.methodLink RX1 34 yX5_copyBack ∈ fm_G := fm_mem 773 (by decide +kernel) (by decide +kernel)
theorem ml_X2_45 : Cond.methodLink RX2 45 yX4_at ∈ fm_G := fm_mem 581 (by decide +kernel) (by decide +kernel)
theorem ml_X3_15 : Cond.methodLink RX3 15 yX5_of ∈ fm_G := fm_mem 369 (by decide +kernel) (by decide +kernel)
theorem ml_X3_21 : Cond.methodLink RX3 21 yX5_voicesFor ∈ fm_G := fm_mem 370 (by decide +kernel) (by decide +kernel)
theorem ml_X3_25 : Cond.methodLink RX3 25 yX3_withPlace ∈ fm_G := fm_mem 371 (by decide +kernel) (by decide +kernel)
theorem ml_X4_23 : Cond.methodLink RX4 23 yX4_add ∈ fm_G := fm_mem 716 (by decide +kernel) (by decide +kernel)
theorem ml_X5_19 : Cond.methodLink RX5 19 yX5_set ∈ fm_G := fm_mem 113 (by decide +kernel) (by decide +kernel)
theorem ml_X5_23 : Cond.methodLink RX5 23 Lib.Math.min.name ∈ fm_G := fm_mem 265 (by decide +kernel) (by decide +kernel)
theorem ml_X5_29 : Cond.methodLink RX5 29 arraycopyName ∈ fm_G := fm_mem 268 (by decide +kernel) (by decide +kernel)
theorem ml_X5_35 : Cond.methodLink RX5 35 yX5_get ∈ fm_G := fm_mem 323 (by decide +kernel) (by decide +kernel)
theorem ml_X5_39 : Cond.methodLink RX5 39 yX5_of ∈ fm_G := fm_mem 328 (by decide +kernel) (by decide +kernel)
theorem ml_X5_42 : Cond.methodLink RX5 42 yX5_is ∈ fm_G := fm_mem 341 (by decide +kernel) (by decide +kernel)
theorem ml_X5_46 : Cond.methodLink RX5 46 yX5_isEntitled ∈ fm_G := fm_mem 451 (by decide +kernel) (by decide +kernel)
theorem ml_X5_50 : Cond.methodLink RX5 50 yX5_pittanceIn ∈ fm_G := fm_mem 403 (by decide +kernel) (by decide +kernel)
theorem ml_X6_74 : Cond.methodLink RX6 74 yX6_onTrial ∈ fm_G := fm_mem 253 (by decide +kernel) (by decide +kernel)
theorem ml_X6_78 : Cond.methodLink RX6 78 yX0_admit ∈ fm_G := fm_mem 271 (by decide +kernel) (by decide +kernel)
theorem ml_X6_82 : Cond.methodLink RX6 82 yX6_settle ∈ fm_G := fm_mem 285 (by decide +kernel) (by decide +kernel)
theorem ml_X6_86 : Cond.methodLink RX6 86 yX0_dropFromLine ∈ fm_G := fm_mem 315 (by decide +kernel) (by decide +kernel)
theorem ml_X6_89 : Cond.methodLink RX6 89 yX0_giveVoice ∈ fm_G := fm_mem 346 (by decide +kernel) (by decide +kernel)
theorem ml_X6_93 : Cond.methodLink RX6 93 yX0_fillCell ∈ fm_G := fm_mem 358 (by decide +kernel) (by decide +kernel)
theorem ml_X6_96 : Cond.methodLink RX6 96 yX0_emptyCell ∈ fm_G := fm_mem 379 (by decide +kernel) (by decide +kernel)
theorem ml_X6_99 : Cond.methodLink RX6 99 yX0_setFeast ∈ fm_G := fm_mem 391 (by decide +kernel) (by decide +kernel)
theorem ml_X6_102 : Cond.methodLink RX6 102 yX0_breakRule ∈ fm_G := fm_mem 408 (by decide +kernel) (by decide +kernel)
theorem ml_X6_105 : Cond.methodLink RX6 105 yX0_endBan ∈ fm_G := fm_mem 419 (by decide +kernel) (by decide +kernel)
theorem ml_X6_108 : Cond.methodLink RX6 108 yX0_takeGift ∈ fm_G := fm_mem 427 (by decide +kernel) (by decide +kernel)
theorem ml_X6_111 : Cond.methodLink RX6 111 yX0_spendWeeks ∈ fm_G := fm_mem 439 (by decide +kernel) (by decide +kernel)
theorem ml_X6_114 : Cond.methodLink RX6 114 yX5_isBrother ∈ fm_G := fm_mem 481 (by decide +kernel) (by decide +kernel)
theorem ml_X6_118 : Cond.methodLink RX6 118 yX5_of ∈ fm_G := fm_mem 482 (by decide +kernel) (by decide +kernel)
theorem ml_X6_121 : Cond.methodLink RX6 121 yX5_is ∈ fm_G := fm_mem 483 (by decide +kernel) (by decide +kernel)
theorem ml_X6_125 : Cond.methodLink RX6 125 yX6_breachesOf ∈ fm_G := fm_mem 484 (by decide +kernel) (by decide +kernel)
theorem ml_X6_128 : Cond.methodLink RX6 128 yX6_placeInLine ∈ fm_G := fm_mem 488 (by decide +kernel) (by decide +kernel)
theorem ml_X6_131 : Cond.methodLink RX6 131 yX6_isRule ∈ fm_G := fm_mem 496 (by decide +kernel) (by decide +kernel)
theorem ml_X6_134 : Cond.methodLink RX6 134 yX6_isCell ∈ fm_G := fm_mem 501 (by decide +kernel) (by decide +kernel)
theorem ml_X6_137 : Cond.methodLink RX6 137 yX5_get ∈ fm_G := fm_mem 502 (by decide +kernel) (by decide +kernel)
theorem ml_X6_140 : Cond.methodLink RX6 140 yX5_isEntitled ∈ fm_G := fm_mem 507 (by decide +kernel) (by decide +kernel)
theorem ml_X6_143 : Cond.methodLink RX6 143 yX5_voicesFor ∈ fm_G := fm_mem 516 (by decide +kernel) (by decide +kernel)
theorem ml_X6_146 : Cond.methodLink RX6 146 yX6_tallyVoices ∈ fm_G := fm_mem 521 (by decide +kernel) (by decide +kernel)
theorem ml_X6_149 : Cond.methodLink RX6 149 yX3_byVoices ∈ fm_G := fm_mem 529 (by decide +kernel) (by decide +kernel)
theorem ml_X6_153 : Cond.methodLink RX6 153 yX3_byTime ∈ fm_G := fm_mem 534 (by decide +kernel) (by decide +kernel)
theorem ml_X6_156 : Cond.methodLink RX6 156 yX3_byGown ∈ fm_G := fm_mem 542 (by decide +kernel) (by decide +kernel)
theorem ml_X6_159 : Cond.methodLink RX6 159 yX5_pittanceIn ∈ fm_G := fm_mem 547 (by decide +kernel) (by decide +kernel)
theorem ml_X6_162 : Cond.methodLink RX6 162 yX0_after ∈ fm_G := fm_mem 552 (by decide +kernel) (by decide +kernel)
theorem ml_X6_166 : Cond.methodLink RX6 166 yX4_size ∈ fm_G := fm_mem 561 (by decide +kernel) (by decide +kernel)
theorem ml_X6_170 : Cond.methodLink RX6 170 yX4_add ∈ fm_G := fm_mem 565 (by decide +kernel) (by decide +kernel)
theorem ml_X6_177 : Cond.methodLink RX6 177 yX4_clear ∈ fm_G := fm_mem 670 (by decide +kernel) (by decide +kernel)
theorem ml_X6_197 : Cond.methodLink RX6 197 yX6_addCell ∈ fm_G := fm_mem 708 (by decide +kernel) (by decide +kernel)
theorem ml_X6_200 : Cond.methodLink RX6 200 yX6_addWaiting ∈ fm_G := fm_mem 721 (by decide +kernel) (by decide +kernel)
theorem ml_X6_203 : Cond.methodLink RX6 203 yX4_at ∈ fm_G := fm_mem 729 (by decide +kernel) (by decide +kernel)
theorem ml_X6_206 : Cond.methodLink RX6 206 yX5_howMany ∈ fm_G := fm_mem 738 (by decide +kernel) (by decide +kernel)
theorem ml_X6_209 : Cond.methodLink RX6 209 yX6_brethrenUnderBan ∈ fm_G := fm_mem 739 (by decide +kernel) (by decide +kernel)
theorem ml_X6_212 : Cond.methodLink RX6 212 yX5_feastsTold ∈ fm_G := fm_mem 743 (by decide +kernel) (by decide +kernel)
theorem ml_X6_215 : Cond.methodLink RX6 215 yX1_size ∈ fm_G := fm_mem 744 (by decide +kernel) (by decide +kernel)
theorem ml_X6_216 : Cond.methodLink RX6 216 yX6_cellsWith ∈ fm_G := fm_mem 752 (by decide +kernel) (by decide +kernel)
theorem ml_X6_222 : Cond.methodLink RX6 222 yX1_giveBack ∈ fm_G := fm_mem 769 (by decide +kernel) (by decide +kernel)
theorem ml_X6_226 : Cond.methodLink RX6 226 yX5_copyFrom ∈ fm_G := fm_mem 302 (by decide +kernel) (by decide +kernel)
theorem ml_X6_230 : Cond.methodLink RX6 230 yX1_forget ∈ fm_G := fm_mem 785 (by decide +kernel) (by decide +kernel)
theorem ml_X6_233 : Cond.methodLink RX6 233 yX0_beginFrom ∈ fm_G := fm_mem 257 (by decide +kernel) (by decide +kernel)
theorem ml_X6_236 : Cond.methodLink RX6 236 yX1_keep ∈ fm_G := fm_mem 289 (by decide +kernel) (by decide +kernel)
theorem ml_X6_239 : Cond.methodLink RX6 239 yX0_result ∈ fm_G := fm_mem 298 (by decide +kernel) (by decide +kernel)
theorem ml_X6_243 : Cond.methodLink RX6 243 yX0_refusedFor ∈ fm_G := fm_mem 303 (by decide +kernel) (by decide +kernel)
theorem ml_X6_246 : Cond.methodLink RX6 246 yX0_refusedDetail ∈ fm_G := fm_mem 307 (by decide +kernel) (by decide +kernel)
theorem ml_X6_249 : Cond.methodLink RX6 249 yX4_addNumber ∈ fm_G := fm_mem 712 (by decide +kernel) (by decide +kernel)
theorem ml_X7_54 : Cond.methodLink RX7 54 yX7_thinks ∈ fm_G := fm_mem 880 (by decide +kernel) (by decide +kernel)
theorem ml_X7_57 : Cond.methodLink RX7 57 yX7_keepsMind ∈ fm_G := fm_mem 884 (by decide +kernel) (by decide +kernel)
theorem ml_X7_60 : Cond.methodLink RX7 60 yX7_isBetween ∈ fm_G := fm_mem 865 (by decide +kernel) (by decide +kernel)
theorem ml_X7_64 : Cond.methodLink RX7 64 yX7_of ∈ fm_G := fm_mem 908 (by decide +kernel) (by decide +kernel)
theorem ml_X7_68 : Cond.methodLink RX7 68 yX7_isSo ∈ fm_G := fm_mem 904 (by decide +kernel) (by decide +kernel)
theorem ml_X7_72 : Cond.methodLink RX7 72 yX7_countsFor ∈ fm_G := fm_mem 940 (by decide +kernel) (by decide +kernel)
theorem ml_X7_76 : Cond.methodLink RX7 76 yX7_sets ∈ fm_G := fm_mem 888 (by decide +kernel) (by decide +kernel)
theorem ml_X7_80 : Cond.methodLink RX7 80 yX7_voicesGo ∈ fm_G := fm_mem 916 (by decide +kernel) (by decide +kernel)
theorem ml_X7_84 : Cond.methodLink RX7 84 yX7_isNot ∈ fm_G := fm_mem 868 (by decide +kernel) (by decide +kernel)
theorem ml_X7_87 : Cond.methodLink RX7 87 yX7_refuses ∈ fm_G := fm_mem 872 (by decide +kernel) (by decide +kernel)
theorem ml_X7_90 : Cond.methodLink RX7 90 yX7_remembers ∈ fm_G := fm_mem 876 (by decide +kernel) (by decide +kernel)
theorem ml_X7_93 : Cond.methodLink RX7 93 yX7_stamps ∈ fm_G := fm_mem 892 (by decide +kernel) (by decide +kernel)
theorem ml_X7_96 : Cond.methodLink RX7 96 yX7_isBrother ∈ fm_G := fm_mem 900 (by decide +kernel) (by decide +kernel)
theorem ml_X7_100 : Cond.methodLink RX7 100 yX7_becomes ∈ fm_G := fm_mem 912 (by decide +kernel) (by decide +kernel)
theorem ml_X7_104 : Cond.methodLink RX7 104 yX7_brethrenThat ∈ fm_G := fm_mem 920 (by decide +kernel) (by decide +kernel)
theorem ml_X7_107 : Cond.methodLink RX7 107 yX7_voicesFor ∈ fm_G := fm_mem 936 (by decide +kernel) (by decide +kernel)
theorem ml_X7_110 : Cond.methodLink RX7 110 yX7_notVoice ∈ fm_G := fm_mem 928 (by decide +kernel) (by decide +kernel)
theorem ml_X7_113 : Cond.methodLink RX7 113 yX7_gives ∈ fm_G := fm_mem 932 (by decide +kernel) (by decide +kernel)
theorem ml_X7_116 : Cond.methodLink RX7 116 yX7_isChosenAhead ∈ fm_G := fm_mem 967 (by decide +kernel) (by decide +kernel)
theorem ml_X7_119 : Cond.methodLink RX7 119 yX7_isCell ∈ fm_G := fm_mem 952 (by decide +kernel) (by decide +kernel)
theorem ml_X7_122 : Cond.methodLink RX7 122 yX7_brotherIn ∈ fm_G := fm_mem 955 (by decide +kernel) (by decide +kernel)
theorem ml_X7_125 : Cond.methodLink RX7 125 yX7_rankedAt ∈ fm_G := fm_mem 963 (by decide +kernel) (by decide +kernel)
theorem ml_X7_128 : Cond.methodLink RX7 128 yX7_notChoose ∈ fm_G := fm_mem 948 (by decide +kernel) (by decide +kernel)
theorem ml_X7_131 : Cond.methodLink RX7 131 yX7_chooses ∈ fm_G := fm_mem 959 (by decide +kernel) (by decide +kernel)
theorem ml_X7_134 : Cond.methodLink RX7 134 yX7_notLeave ∈ fm_G := fm_mem 975 (by decide +kernel) (by decide +kernel)
theorem ml_X7_137 : Cond.methodLink RX7 137 yX7_leaves ∈ fm_G := fm_mem 979 (by decide +kernel) (by decide +kernel)
theorem ml_X7_140 : Cond.methodLink RX7 140 yX7_notFeast ∈ fm_G := fm_mem 987 (by decide +kernel) (by decide +kernel)
theorem ml_X7_143 : Cond.methodLink RX7 143 yX7_tells ∈ fm_G := fm_mem 991 (by decide +kernel) (by decide +kernel)
theorem ml_X7_146 : Cond.methodLink RX7 146 yX7_notBreach ∈ fm_G := fm_mem 999 (by decide +kernel) (by decide +kernel)
theorem ml_X7_149 : Cond.methodLink RX7 149 yX7_breaks ∈ fm_G := fm_mem 1003 (by decide +kernel) (by decide +kernel)
theorem ml_X7_152 : Cond.methodLink RX7 152 yX7_notPardon ∈ fm_G := fm_mem 1011 (by decide +kernel) (by decide +kernel)
theorem ml_X7_155 : Cond.methodLink RX7 155 yX7_pardons ∈ fm_G := fm_mem 1015 (by decide +kernel) (by decide +kernel)
theorem ml_X7_158 : Cond.methodLink RX7 158 yX7_lesser ∈ fm_G := fm_mem 1031 (by decide +kernel) (by decide +kernel)
theorem ml_X7_161 : Cond.methodLink RX7 161 yX7_comesIn ∈ fm_G := fm_mem 1027 (by decide +kernel) (by decide +kernel)
theorem ml_X7_164 : Cond.methodLink RX7 164 yX7_puts ∈ fm_G := fm_mem 1023 (by decide +kernel) (by decide +kernel)
theorem ml_X7_167 : Cond.methodLink RX7 167 yX7_isEntitled ∈ fm_G := fm_mem 1054 (by decide +kernel) (by decide +kernel)
theorem ml_X7_170 : Cond.methodLink RX7 170 yX7_entitledMany ∈ fm_G := fm_mem 1050 (by decide +kernel) (by decide +kernel)
theorem ml_X7_174 : Cond.methodLink RX7 174 yX7_isSeniorTo ∈ fm_G := fm_mem 1070 (by decide +kernel) (by decide +kernel)
theorem ml_X7_177 : Cond.methodLink RX7 177 yX7_isShabbier ∈ fm_G := fm_mem 1066 (by decide +kernel) (by decide +kernel)
theorem ml_X7_180 : Cond.methodLink RX7 180 yX7_shabbyAt ∈ fm_G := fm_mem 1062 (by decide +kernel) (by decide +kernel)
theorem ml_X7_183 : Cond.methodLink RX7 183 yX7_feastComes ∈ fm_G := fm_mem 1046 (by decide +kernel) (by decide +kernel)
theorem ml_X7_186 : Cond.methodLink RX7 186 yX7_yearBegins ∈ fm_G := fm_mem 1058 (by decide +kernel) (by decide +kernel)
theorem ml_X7_189 : Cond.methodLink RX7 189 yX7_weekGoes ∈ fm_G := fm_mem 1042 (by decide +kernel) (by decide +kernel)
theorem ml_X7_192 : Cond.methodLink RX7 192 yX7_weeksGo ∈ fm_G := fm_mem 1038 (by decide +kernel) (by decide +kernel)
theorem ml_X7_195 : Cond.methodLink RX7 195 yX7_forgets ∈ fm_G := fm_mem 1078 (by decide +kernel) (by decide +kernel)
theorem ml_X7_198 : Cond.methodLink RX7 198 yX7_brokeAll ∈ fm_G := fm_mem 1090 (by decide +kernel) (by decide +kernel)
theorem ml_X7_201 : Cond.methodLink RX7 201 yX7_placeInLine ∈ fm_G := fm_mem 1094 (by decide +kernel) (by decide +kernel)
theorem ml_X7_210 : Cond.methodLink RX7 210 yX7_sign ∈ fm_G := fm_mem 1158 (by decide +kernel) (by decide +kernel)
theorem ml_X7_213 : Cond.methodLink RX7 213 yX7_reads ∈ fm_G := fm_mem 1154 (by decide +kernel) (by decide +kernel)
theorem ml_X7_219 : Cond.methodLink RX7 219 yX7_readsNumber ∈ fm_G := fm_mem 1166 (by decide +kernel) (by decide +kernel)
theorem ml_X7_222 : Cond.methodLink RX7 222 yX7_readsTwo ∈ fm_G := fm_mem 1162 (by decide +kernel) (by decide +kernel)
theorem ml_X7_225 : Cond.methodLink RX7 225 yX7_readsOrder ∈ fm_G := fm_mem 1150 (by decide +kernel) (by decide +kernel)
theorem ml_X7_232 : Cond.methodLink RX7 232 yX7_notNow ∈ fm_G := fm_mem 1174 (by decide +kernel) (by decide +kernel)
theorem ml_X7_235 : Cond.methodLink RX7 235 yX7_doesNow ∈ fm_G := fm_mem 1178 (by decide +kernel) (by decide +kernel)
theorem ml_X7_238 : Cond.methodLink RX7 238 yX7_readsAll ∈ fm_G := fm_mem 1146 (by decide +kernel) (by decide +kernel)
theorem ml_X7_241 : Cond.methodLink RX7 241 yX7_doesAll ∈ fm_G := fm_mem 1170 (by decide +kernel) (by decide +kernel)
theorem ml_X7_247 : Cond.methodLink RX7 247 yX7_writes ∈ fm_G := fm_mem 1186 (by decide +kernel) (by decide +kernel)
theorem ml_X7_250 : Cond.methodLink RX7 250 yX7_writesNumber ∈ fm_G := fm_mem 1194 (by decide +kernel) (by decide +kernel)
theorem ml_X7_253 : Cond.methodLink RX7 253 yX7_writesCell ∈ fm_G := fm_mem 1190 (by decide +kernel) (by decide +kernel)
theorem ml_X7_256 : Cond.methodLink RX7 256 yX7_inLine ∈ fm_G := fm_mem 1202 (by decide +kernel) (by decide +kernel)
theorem ml_X7_259 : Cond.methodLink RX7 259 yX7_banned ∈ fm_G := fm_mem 1214 (by decide +kernel) (by decide +kernel)
theorem ml_X7_262 : Cond.methodLink RX7 262 yX7_gotAll ∈ fm_G := fm_mem 1222 (by decide +kernel) (by decide +kernel)
theorem nl_X0_73 : Cond.methodLinkNest RX0 73 yX6_isCell "PittanceHouse" ∈ fm_N := by decide +kernel
theorem nl_X0_90 : Cond.methodLinkNest RX0 90 yX6_isRule "PittanceHouse" ∈ fm_N := by decide +kernel
def fm_layH : List fm_L := [.inr (6, [some (some 1), some (some 3), some (some 5), some (some 10), some (some 12), some (some 14), some (some 18), some (some 20), some (some 22), none, none, none]), .inr (5, [some (some 2)]), .inl (0, 294), .inr (5, [some (some 4)]), .inl (0, 294), .inr (0, [some (some 6), some (some 8), none, none]), .inr (5, [some (some 7)]), .inl (0, 294), .inr (3, [some (some 9)]), .inl (0, 16), .inr (3, [some (some 11)]), .inl (0, 16), .inr (1, [some (some 13), none, none]), .inl (0, 2352), .inr (2, [some (some 15), some (some 16), some (some 17), none, none, none]), .inl (0, 10), .inl (0, 10), .inl (0, 10), .inr (4, [some (some 19), none]), .inl (0, 60), .inr (4, [some (some 21), none]), .inl (0, 128), .inl (0, 16)]
def fm_layM : List fm_L := [.inr (7, [none, none, none, none, some (some 24), some (some 25), some (some 26), some (some 27), none, none, none, some (some 28), some (some 29), none, none, some (some 30), none, none, some (some 31), none]), .inl (0, 320), .inl (0, 2560), .inl (0, 320), .inl (0, 320), .inl (0, 16), .inl (1, 60), .inl (0, 2), .inl (1, 160)]
abbrev fm_layW : List fm_L := fm_layH ++ fm_layM
theorem fm_chk2 {c : Prop} [Decidable c] {β : Type} {x : Option β} {b : β} (h : (if c then none else x) = some b) : ¬ c ∧ x = some b := by
  by_cases hc : c
  · rw [if_pos hc] at h; cases h
  · rw [if_neg hc] at h; exact ⟨hc, h⟩
end
section
abbrev m_J0_coder_7d493 : fm_Me := (yJ0_coder_7d493, cJ0_coder_7d493, 1, some .byte, RJ0)
theorem ce_J0_coder_7d493 : fm_callee m_J0_coder_7d493 0 := fm_callee_of 0 (fm_mem 610 (by decide +kernel) (by decide +kernel)) (fm_mem 91 (by decide +kernel) (by decide +kernel)) (by decide +kernel) (by decide +kernel) (by decide)
theorem in_J0_coder_7d493 : Cond.instanceMethod yJ0_coder_7d493 ∈ fm_G := fm_mem 608 (by decide +kernel) (by decide +kernel)
theorem se_J0_coder_7d493 : Cond.selects RJ0 yJ0_coder_7d493 yJ0_coder_7d493 ∈ fm_G := fm_mem 609 (by decide +kernel) (by decide +kernel)
abbrev m_J0_isLatin1_aae02 : fm_Me := (yJ0_isLatin1_aae02, cJ0_isLatin1_aae02, 1, some .boolean, RJ0)
theorem ce_J0_isLatin1_aae02 : fm_callee m_J0_isLatin1_aae02 0 := fm_callee_of 0 (fm_mem 620 (by decide +kernel) (by decide +kernel)) (fm_mem 91 (by decide +kernel) (by decide +kernel)) (by decide +kernel) (by decide +kernel) (by decide)
theorem in_J0_isLatin1_aae02 : Cond.instanceMethod yJ0_isLatin1_aae02 ∈ fm_G := fm_mem 618 (by decide +kernel) (by decide +kernel)
theorem se_J0_isLatin1_aae02 : Cond.selects RJ0 yJ0_isLatin1_aae02 yJ0_isLatin1_aae02 ∈ fm_G := fm_mem 619 (by decide +kernel) (by decide +kernel)
abbrev m_J0_length_8abf5 : fm_Me := (yJ0_length_8abf5, cJ0_length_8abf5, 1, some .int, RJ0)
theorem ce_J0_length_8abf5 : fm_callee m_J0_length_8abf5 0 := fm_callee_of 0 (fm_mem 606 (by decide +kernel) (by decide +kernel)) (fm_mem 91 (by decide +kernel) (by decide +kernel)) (by decide +kernel) (by decide +kernel) (by decide)
theorem in_J0_length_8abf5 : Cond.instanceMethod yJ0_length_8abf5 ∈ fm_G := fm_mem 604 (by decide +kernel) (by decide +kernel)
theorem se_J0_length_8abf5 : Cond.selects RJ0 yJ0_length_8abf5 yJ0_length_8abf5 ∈ fm_G := fm_mem 605 (by decide +kernel) (by decide +kernel)
abbrev m_J3_checkIndex_8e157 : fm_Me := (yJ3_checkIndex_8e157, cJ3_checkIndex_8e157, 3, some .int, RJ3)
theorem ce_J3_checkIndex_8e157 : fm_callee m_J3_checkIndex_8e157 3 := fm_callee_of 3 (fm_mem 631 (by decide +kernel) (by decide +kernel)) (fm_mem 93 (by decide +kernel) (by decide +kernel)) (by decide +kernel) (by decide +kernel) (by decide)
theorem st_J3_checkIndex_8e157 : Cond.static yJ3_checkIndex_8e157 ∈ fm_G := fm_mem 630 (by decide +kernel) (by decide +kernel)
abbrev m_J0_checkIndex_df160 : fm_Me := (yJ0_checkIndex_df160, cJ0_checkIndex_df160, 2, none, RJ0)
theorem ce_J0_checkIndex_df160 : fm_callee m_J0_checkIndex_df160 2 := fm_callee_of 2 (fm_mem 626 (by decide +kernel) (by decide +kernel)) (fm_mem 91 (by decide +kernel) (by decide +kernel)) (by decide +kernel) (by decide +kernel) (by decide)
theorem st_J0_checkIndex_df160 : Cond.static yJ0_checkIndex_df160 ∈ fm_G := fm_mem 625 (by decide +kernel) (by decide +kernel)
abbrev m_J1_charAt_3b067 : fm_Me := (yJ1_charAt_3b067, cJ1_charAt_3b067, 2, some .char, RJ1)
theorem ce_J1_charAt_3b067 : fm_callee m_J1_charAt_3b067 2 := fm_callee_of 2 (fm_mem 623 (by decide +kernel) (by decide +kernel)) (fm_mem 92 (by decide +kernel) (by decide +kernel)) (by decide +kernel) (by decide +kernel) (by decide)
theorem st_J1_charAt_3b067 : Cond.static yJ1_charAt_3b067 ∈ fm_G := fm_mem 622 (by decide +kernel) (by decide +kernel)
abbrev m_J0_charAt_5068e : fm_Me := (yJ0_charAt_5068e, cJ0_charAt_5068e, 2, some .char, RJ0)
theorem ce_J0_charAt_5068e : fm_callee m_J0_charAt_5068e 1 := fm_callee_of 1 (fm_mem 616 (by decide +kernel) (by decide +kernel)) (fm_mem 91 (by decide +kernel) (by decide +kernel)) (by decide +kernel) (by decide +kernel) (by decide)
theorem in_J0_charAt_5068e : Cond.instanceMethod yJ0_charAt_5068e ∈ fm_G := fm_mem 614 (by decide +kernel) (by decide +kernel)
theorem se_J0_charAt_5068e : Cond.selects RJ0 yJ0_charAt_5068e yJ0_charAt_5068e ∈ fm_G := fm_mem 615 (by decide +kernel) (by decide +kernel)
theorem ml_J0_335 : Cond.methodLink RJ0 335 yJ0_coder_7d493 ∈ fm_G := fm_mem 607 (by decide +kernel) (by decide +kernel)
theorem ml_J0_492 : Cond.methodLink RJ0 492 yJ0_isLatin1_aae02 ∈ fm_G := fm_mem 617 (by decide +kernel) (by decide +kernel)
theorem ml_J0_495 : Cond.methodLink RJ0 495 yJ1_charAt_3b067 ∈ fm_G := fm_mem 621 (by decide +kernel) (by decide +kernel)
theorem ml_J0_1059 : Cond.methodLink RJ0 1059 yJ3_checkIndex_8e157 ∈ fm_G := fm_mem 629 (by decide +kernel) (by decide +kernel)
theorem ml_J1_9 : Cond.methodLink RJ1 9 yJ0_checkIndex_df160 ∈ fm_G := fm_mem 624 (by decide +kernel) (by decide +kernel)
theorem lk_J0_9 : Cond.fieldLink RJ0 9 "java/lang/String" "value" "[B" ∈ fm_G := fm_mem 1246 (by decide +kernel) (by decide +kernel)
theorem lk_J0_15 : Cond.fieldLink RJ0 15 "java/lang/String" "coder" "B" ∈ fm_G := fm_mem 1247 (by decide +kernel) (by decide +kernel)
theorem lk_J0_38 : Cond.fieldLink RJ0 38 "java/lang/String" "COMPACT_STRINGS" "Z" ∈ fm_G := fm_mem 611 (by decide +kernel) (by decide +kernel)
theorem lk_J0_1053 : Cond.fieldLink RJ0 1053 "jdk/internal/util/Preconditions" "SIOOBE_FORMATTER" "Ljava/util/function/BiFunction;" ∈ fm_G := fm_mem 627 (by decide +kernel) (by decide +kernel)
theorem ml_X2_73 : Cond.methodLink RX2 73 yJ0_length_8abf5 ∈ fm_G := fm_mem 603 (by decide +kernel) (by decide +kernel)
theorem ml_X2_78 : Cond.methodLink RX2 78 yJ0_charAt_5068e ∈ fm_G := fm_mem 613 (by decide +kernel) (by decide +kernel)
/-! the texts: length and charAt -/
theorem sx_shr : ∀ i, i < 8 → (Int32.ofNat (fm_len.getD i 0)) >>> ((0 : Int32) &&& 31) = Int32.ofNat (fm_len.getD i 0) := by decide +kernel
theorem sx_len : ∀ i, i < 8 → fm_len.getD i 0 ≤ 7 ∧ (fm_byt.getD i []).length = fm_len.getD i 0 := by decide +kernel
theorem sx_chr : ∀ i, i < 8 → ∀ j, j < 7 → ((((fm_byt.getD i []).getD j 0) &&& 255).toUInt32 % 65536).toInt32 = (fm_byt.getD i []).getD j 0 ∧ narrow .char (.int ((fm_byt.getD i []).getD j 0)) = .int ((fm_byt.getD i []).getD j 0) := by decide +kernel
theorem c_J0_coder {lay : List fm_L} {i : Nat} (hi : i < 8) (m : fm_M) : fm_Met lay 0 m_J0_coder_7d493 [.ref (1000 + i)] m (fm_pi 0 m) := by
  refine fm_Met_of (ls := [some (.ref (1000 + i))]) (by decide) rfl (fm_cc_r _ fm_cc_0) (Nat.le_of_ble_eq_true rfl) rfl ?_
  refine go_getsC (pc := 0) dJ0_coder_7d493_0 lk_J0_38 ?_
  refine go_if_eq (pc := 3) (tgt := 13) dJ0_coder_7d493_3 (by decide) (fun c => absurd c (by decide)) (fun _ => ?_)
  refine go_aload_n (pc := 6) dJ0_coder_7d493_6 rfl rfl ?_
  refine go_strcod (pc := 7) dJ0_coder_7d493_7 hi lk_J0_15 ?_
  refine go_goto (pc := 10) (tgt := 14) dJ0_coder_7d493_10 (by decide) ?_
  exact go_iret (pc := 14) .byte dJ0_coder_7d493_14 rfl rfl ⟨rfl, rfl⟩
theorem c_J0_isLatin1 {lay : List fm_L} {i : Nat} (hi : i < 8) (m : fm_M) : fm_Met lay 0 m_J0_isLatin1_aae02 [.ref (1000 + i)] m (fm_pi 1 m) := by
  refine fm_Met_of (ls := [some (.ref (1000 + i))]) (by decide) rfl (fm_cc_r _ fm_cc_0) (Nat.le_of_ble_eq_true rfl) rfl ?_
  refine go_getsC (pc := 0) dJ0_isLatin1_aae02_0 lk_J0_38 ?_
  refine go_if_eq (pc := 3) (tgt := 17) dJ0_isLatin1_aae02_3 (by decide) (fun c => absurd c (by decide)) (fun _ => ?_)
  refine go_aload_n (pc := 6) dJ0_isLatin1_aae02_6 rfl rfl ?_
  refine go_strcod (pc := 7) dJ0_isLatin1_aae02_7 hi lk_J0_15 ?_
  refine go_if_ne (pc := 10) (tgt := 17) dJ0_isLatin1_aae02_10 (by decide) (fun c => absurd rfl c) (fun _ => ?_)
  refine go_iconst (pc := 13) (v := 1) dJ0_isLatin1_aae02_13 (by decide) ?_
  refine go_goto (pc := 14) (tgt := 18) dJ0_isLatin1_aae02_14 (by decide) ?_
  exact go_iret (pc := 18) .boolean dJ0_isLatin1_aae02_18 rfl rfl ⟨rfl, rfl⟩
theorem c_J0_length {lay : List fm_L} {i : Nat} (hi : i < 8) (m : fm_M) : fm_Met lay 1 m_J0_length_8abf5 [.ref (1000 + i)] m (fm_pi (Int32.ofNat (fm_len.getD i 0)) m) := by
  refine fm_Met_of (ls := [some (.ref (1000 + i))]) (by decide) rfl (fm_cc_r _ fm_cc_0) (Nat.le_of_ble_eq_true rfl) rfl ?_
  refine go_aload_n (pc := 0) dJ0_length_8abf5_0 rfl rfl ?_
  refine go_strval (pc := 1) dJ0_length_8abf5_1 hi lk_J0_9 ?_
  refine go_stralen (pc := 4) dJ0_length_8abf5_4 hi ?_
  refine go_aload_n (pc := 5) dJ0_length_8abf5_5 rfl rfl ?_
  refine go_callTi (pc := 6) (As := []) (st := [.int (Int32.ofNat (fm_len.getD i 0))]) dJ0_length_8abf5_6 hi (c_J0_coder hi m) (by decide) ce_J0_coder_7d493 ml_J0_335 in_J0_coder_7d493 se_J0_coder_7d493 rfl (Nat.le_of_ble_eq_true rfl) rfl ?_
  refine go_ishr (pc := 9) dJ0_length_8abf5_9 ?_
  exact go_iret (pc := 10) .int dJ0_length_8abf5_10 rfl rfl ⟨by rw [sx_shr i hi], rfl⟩
theorem c_J3_checkIndex {lay : List fm_L} {x n : Int32} (h0 : ¬ x < 0) (h1 : x < n) (m : fm_M) : fm_Met lay 0 m_J3_checkIndex_8e157 [.int x, .int n, .ref 3000] m (fm_pi x m) := by
  refine fm_Met_of (ls := [some (.int x), some (.int n), some (.ref 3000)]) (by decide) rfl (fm_cc_i _ (fm_cc_i _ (fm_cc_r _ fm_cc_0))) (Nat.le_of_ble_eq_true rfl) rfl ?_
  refine go_iload_n (pc := 0) dJ3_checkIndex_8e157_0 rfl rfl ?_
  refine go_if_lt (pc := 1) (tgt := 9) dJ3_checkIndex_8e157_1 (by decide) (fun c => absurd c h0) (fun _ => ?_)
  refine go_iload_n (pc := 4) dJ3_checkIndex_8e157_4 rfl rfl ?_
  refine go_iload_n (pc := 5) dJ3_checkIndex_8e157_5 rfl rfl ?_
  refine go_icmp_lt (pc := 6) (tgt := 16) dJ3_checkIndex_8e157_6 (by decide) (fun _ => ?_) (fun c => absurd h1 c)
  refine go_iload_n (pc := 16) dJ3_checkIndex_8e157_16 rfl rfl ?_
  exact go_iret (pc := 17) .int dJ3_checkIndex_8e157_17 rfl rfl ⟨rfl, rfl⟩
theorem c_J0_checkIndex {lay : List fm_L} {x n : Int32} (h0 : ¬ x < 0) (h1 : x < n) (m : fm_M) : fm_Met lay 1 m_J0_checkIndex_df160 [.int x, .int n] m (fm_pv m) := by
  refine fm_Met_of (ls := [some (.int x), some (.int n)]) (by decide) rfl (fm_cc_i _ (fm_cc_i _ fm_cc_0)) (Nat.le_of_ble_eq_true rfl) rfl ?_
  refine go_iload_n (pc := 0) dJ0_checkIndex_df160_0 rfl rfl ?_
  refine go_iload_n (pc := 1) dJ0_checkIndex_df160_1 rfl rfl ?_
  refine go_getsF (pc := 2) dJ0_checkIndex_df160_2 lk_J0_1053 ?_
  refine go_callSi (pc := 5) (As := [.int x, .int n, .ref 3000]) (st := []) dJ0_checkIndex_df160_5 (c_J3_checkIndex h0 h1 m) (by decide) ce_J3_checkIndex_8e157 ml_J0_1059 st_J3_checkIndex_8e157 rfl (Nat.le_of_ble_eq_true rfl) rfl ?_
  refine go_pop (pc := 8) dJ0_checkIndex_df160_8 rfl ?_
  exact go_vret (pc := 9) dJ0_checkIndex_df160_9 rfl ⟨rfl, rfl⟩
theorem sx_in {x : Int32} {n : Nat} (h : vp_in x n) (hn : n < 2 ^ 31) : ¬ x < 0 ∧ x < Int32.ofNat n := by
  obtain ⟨j, hj, rfl⟩ := vp_in_of h hn
  exact ⟨nI_pos (by omega), nI_lt hj (by omega)⟩
theorem sx_cl {x : Int32} {n : Nat} (h : vp_in x n) : x.toNatClampNeg < n := Nat.not_le.mp fun q => h (Or.inr q)
theorem c_J1_charAt {lay : List fm_L} {i : Nat} {x : Int32} (hi : i < 8) (hx : vp_in x (fm_len.getD i 0)) (m : fm_M) : fm_Met lay 2 m_J1_charAt_3b067 [.ref (2000 + i), .int x] m (fm_pi ((fm_byt.getD i []).getD x.toNatClampNeg 0) m) := by
  have hl := sx_len i hi
  have hb := sx_in hx (by omega)
  have hc := sx_chr i hi x.toNatClampNeg (by have := sx_cl hx; omega)
  refine fm_Met_of (ls := [some (.ref (2000 + i)), some (.int x)]) (by decide) rfl (fm_cc_r _ (fm_cc_i _ fm_cc_0)) (Nat.le_of_ble_eq_true rfl) rfl ?_
  refine go_iload_n (pc := 0) dJ1_charAt_3b067_0 rfl rfl ?_
  refine go_aload_n (pc := 1) dJ1_charAt_3b067_1 rfl rfl ?_
  refine go_stralen (pc := 2) dJ1_charAt_3b067_2 hi ?_
  refine go_callSv (pc := 3) (As := [.int x, .int (Int32.ofNat (fm_len.getD i 0))]) (st := []) dJ1_charAt_3b067_3 (c_J0_checkIndex hb.1 hb.2 m) (by decide) ce_J0_checkIndex_df160 ml_J1_9 st_J0_checkIndex_df160 rfl (Nat.le_of_ble_eq_true rfl) rfl ?_
  refine go_aload_n (pc := 6) dJ1_charAt_3b067_6 rfl rfl ?_
  refine go_iload_n (pc := 7) dJ1_charAt_3b067_7 rfl rfl ?_
  refine go_strbald (pc := 8) dJ1_charAt_3b067_8 hi hx ?_
  refine go_sipush (pc := 9) (v := 255) dJ1_charAt_3b067_9 (by decide) ?_
  refine go_iand (pc := 12) dJ1_charAt_3b067_12 ?_
  refine go_i2c (pc := 13) dJ1_charAt_3b067_13 ?_
  rw [hc.1]
  exact go_iret (pc := 14) .char dJ1_charAt_3b067_14 rfl hc.2 ⟨rfl, rfl⟩
theorem c_J0_charAt {lay : List fm_L} {i : Nat} {x : Int32} (hi : i < 8) (hx : vp_in x (fm_len.getD i 0)) (m : fm_M) : fm_Met lay 3 m_J0_charAt_5068e [.ref (1000 + i), .int x] m (fm_pi ((fm_byt.getD i []).getD x.toNatClampNeg 0) m) := by
  have hl := sx_len i hi
  have hc := sx_chr i hi x.toNatClampNeg (by have := sx_cl hx; omega)
  refine fm_Met_of (ls := [some (.ref (1000 + i)), some (.int x)]) (by decide) rfl (fm_cc_r _ (fm_cc_i _ fm_cc_0)) (Nat.le_of_ble_eq_true rfl) rfl ?_
  refine go_aload_n (pc := 0) dJ0_charAt_5068e_0 rfl rfl ?_
  refine go_callTi (pc := 1) (As := []) (st := []) dJ0_charAt_5068e_1 hi (c_J0_isLatin1 hi m) (by decide) ce_J0_isLatin1_aae02 ml_J0_492 in_J0_isLatin1_aae02 se_J0_isLatin1_aae02 rfl (Nat.le_of_ble_eq_true rfl) rfl ?_
  refine go_if_eq (pc := 4) (tgt := 16) dJ0_charAt_5068e_4 (by decide) (fun c => absurd c (by decide)) (fun _ => ?_)
  refine go_aload_n (pc := 7) dJ0_charAt_5068e_7 rfl rfl ?_
  refine go_strval (pc := 8) dJ0_charAt_5068e_8 hi lk_J0_9 ?_
  refine go_iload_n (pc := 11) dJ0_charAt_5068e_11 rfl rfl ?_
  refine go_callSi (pc := 12) (As := [.ref (2000 + i), .int x]) (st := []) dJ0_charAt_5068e_12 (c_J1_charAt hi hx m) (by decide) ce_J1_charAt_3b067 ml_J0_495 st_J1_charAt_3b067 rfl (Nat.le_of_ble_eq_true rfl) rfl ?_
  exact go_iret (pc := 15) .char dJ0_charAt_5068e_15 rfl hc.2 ⟨rfl, rfl⟩
end
