section
-- ===== PART A: goes FIRST, ahead of the names: the tables' words, and 'selects' of the private methods out of them =====
/-- a private method of a class that the tables say can be made, by its rows of tables_1 -/
def lw_okq (q : MethodName × Nat) : Prop := (q.1.cls ≠ "java/lang/invoke/MethodHandle" ∧ q.1.cls ≠ "java/lang/invoke/VarHandle") ∧ Cond.instantiable q.1.cls q.2 ∈ tables_1 ∧ Cond.privateMethod q.1 ∈ tables_1 ∧ Cond.instanceMethod q.1 ∈ tables_1
theorem lw_p0 : lw_okq (⟨"ThirstLead$Desert", "wayToWell", "()I"⟩, 13) := ⟨⟨by decide +kernel, by decide +kernel⟩, List.mem_of_getElem? (i := 26) (by decide +kernel), List.mem_of_getElem? (i := 356) (by decide +kernel), List.mem_of_getElem? (i := 357) (by decide +kernel)⟩
theorem lw_p1 : lw_okq (⟨"ThirstLead$Desert", "wayTo", "(I)I"⟩, 13) := ⟨⟨by decide +kernel, by decide +kernel⟩, List.mem_of_getElem? (i := 26) (by decide +kernel), List.mem_of_getElem? (i := 363) (by decide +kernel), List.mem_of_getElem? (i := 364) (by decide +kernel)⟩
theorem lw_p2 : lw_okq (⟨"ThirstLead", "passHours", "(LThirstLead$Desert;I)V"⟩, 11) := ⟨⟨by decide +kernel, by decide +kernel⟩, List.mem_of_getElem? (i := 18) (by decide +kernel), List.mem_of_getElem? (i := 428) (by decide +kernel), List.mem_of_getElem? (i := 429) (by decide +kernel)⟩
theorem lw_p3 : lw_okq (⟨"ThirstLead$Desert", "followLeader", "()V"⟩, 13) := ⟨⟨by decide +kernel, by decide +kernel⟩, List.mem_of_getElem? (i := 26) (by decide +kernel), List.mem_of_getElem? (i := 440) (by decide +kernel), List.mem_of_getElem? (i := 441) (by decide +kernel)⟩
theorem lw_p4 : lw_okq (⟨"ThirstLead$Desert", "drinkAtWell", "()V"⟩, 13) := ⟨⟨by decide +kernel, by decide +kernel⟩, List.mem_of_getElem? (i := 26) (by decide +kernel), List.mem_of_getElem? (i := 445) (by decide +kernel), List.mem_of_getElem? (i := 446) (by decide +kernel)⟩
theorem lw_p5 : lw_okq (⟨"ThirstLead$Desert", "thirstAndSip", "(LThirstLead$Laws;)V"⟩, 13) := ⟨⟨by decide +kernel, by decide +kernel⟩, List.mem_of_getElem? (i := 26) (by decide +kernel), List.mem_of_getElem? (i := 460) (by decide +kernel), List.mem_of_getElem? (i := 461) (by decide +kernel)⟩
theorem lw_p6 : lw_okq (⟨"ThirstLead$Desert", "loseDead", "()V"⟩, 13) := ⟨⟨by decide +kernel, by decide +kernel⟩, List.mem_of_getElem? (i := 26) (by decide +kernel), List.mem_of_getElem? (i := 469) (by decide +kernel), List.mem_of_getElem? (i := 470) (by decide +kernel)⟩
theorem lw_p7 : lw_okq (⟨"ThirstLead", "firstDeath", "(I)I"⟩, 11) := ⟨⟨by decide +kernel, by decide +kernel⟩, List.mem_of_getElem? (i := 18) (by decide +kernel), List.mem_of_getElem? (i := 517) (by decide +kernel), List.mem_of_getElem? (i := 518) (by decide +kernel)⟩
theorem lw_p8 : lw_okq (⟨"ThirstLead", "differencesFrom", "(LThirstLead$Sheet;II)I"⟩, 11) := ⟨⟨by decide +kernel, by decide +kernel⟩, List.mem_of_getElem? (i := 18) (by decide +kernel), List.mem_of_getElem? (i := 565) (by decide +kernel), List.mem_of_getElem? (i := 566) (by decide +kernel)⟩
theorem lw_p9 : lw_okq (⟨"ThirstLead$Reader", "step", "()V"⟩, 6) := ⟨⟨by decide +kernel, by decide +kernel⟩, List.mem_of_getElem? (i := 178) (by decide +kernel), List.mem_of_getElem? (i := 616) (by decide +kernel), List.mem_of_getElem? (i := 617) (by decide +kernel)⟩
theorem lw_p10 : lw_okq (⟨"ThirstLead$Reader", "isWord", "()Z"⟩, 6) := ⟨⟨by decide +kernel, by decide +kernel⟩, List.mem_of_getElem? (i := 178) (by decide +kernel), List.mem_of_getElem? (i := 620) (by decide +kernel), List.mem_of_getElem? (i := 621) (by decide +kernel)⟩
theorem lw_p11 : lw_okq (⟨"ThirstLead$Reader", "skipped", "(III)I"⟩, 6) := ⟨⟨by decide +kernel, by decide +kernel⟩, List.mem_of_getElem? (i := 178) (by decide +kernel), List.mem_of_getElem? (i := 624) (by decide +kernel), List.mem_of_getElem? (i := 625) (by decide +kernel)⟩
theorem lw_p12 : lw_okq (⟨"ThirstLead$Reader", "isIn", "(III)Z"⟩, 6) := ⟨⟨by decide +kernel, by decide +kernel⟩, List.mem_of_getElem? (i := 178) (by decide +kernel), List.mem_of_getElem? (i := 628) (by decide +kernel), List.mem_of_getElem? (i := 629) (by decide +kernel)⟩
theorem lw_p13 : lw_okq (⟨"ThirstLead$Reader", "readKey", "()Z"⟩, 6) := ⟨⟨by decide +kernel, by decide +kernel⟩, List.mem_of_getElem? (i := 178) (by decide +kernel), List.mem_of_getElem? (i := 632) (by decide +kernel), List.mem_of_getElem? (i := 633) (by decide +kernel)⟩
theorem lw_p14 : lw_okq (⟨"ThirstLead$Reader", "stands", "(Ljava/lang/String;)Z"⟩, 6) := ⟨⟨by decide +kernel, by decide +kernel⟩, List.mem_of_getElem? (i := 178) (by decide +kernel), List.mem_of_getElem? (i := 642) (by decide +kernel), List.mem_of_getElem? (i := 643) (by decide +kernel)⟩
theorem lw_p15 : lw_okq (⟨"ThirstLead$Reader", "readLevel", "(III)Z"⟩, 6) := ⟨⟨by decide +kernel, by decide +kernel⟩, List.mem_of_getElem? (i := 178) (by decide +kernel), List.mem_of_getElem? (i := 694) (by decide +kernel), List.mem_of_getElem? (i := 695) (by decide +kernel)⟩
def lw_privs_1 : List (MethodName × Nat) := [(⟨"ThirstLead$Desert", "wayToWell", "()I"⟩, 13), (⟨"ThirstLead$Desert", "wayTo", "(I)I"⟩, 13), (⟨"ThirstLead", "passHours", "(LThirstLead$Desert;I)V"⟩, 11), (⟨"ThirstLead$Desert", "followLeader", "()V"⟩, 13), (⟨"ThirstLead$Desert", "drinkAtWell", "()V"⟩, 13), (⟨"ThirstLead$Desert", "thirstAndSip", "(LThirstLead$Laws;)V"⟩, 13), (⟨"ThirstLead$Desert", "loseDead", "()V"⟩, 13), (⟨"ThirstLead", "firstDeath", "(I)I"⟩, 11), (⟨"ThirstLead", "differencesFrom", "(LThirstLead$Sheet;II)I"⟩, 11), (⟨"ThirstLead$Reader", "step", "()V"⟩, 6), (⟨"ThirstLead$Reader", "isWord", "()Z"⟩, 6), (⟨"ThirstLead$Reader", "skipped", "(III)I"⟩, 6), (⟨"ThirstLead$Reader", "isIn", "(III)Z"⟩, 6), (⟨"ThirstLead$Reader", "readKey", "()Z"⟩, 6), (⟨"ThirstLead$Reader", "stands", "(Ljava/lang/String;)Z"⟩, 6), (⟨"ThirstLead$Reader", "readLevel", "(III)Z"⟩, 6)]
theorem lw_r1 : ∀ q ∈ lw_privs_1, lw_okq q := List.forall_mem_cons.mpr ⟨lw_p0, List.forall_mem_cons.mpr ⟨lw_p1, List.forall_mem_cons.mpr ⟨lw_p2, List.forall_mem_cons.mpr ⟨lw_p3, List.forall_mem_cons.mpr ⟨lw_p4, List.forall_mem_cons.mpr ⟨lw_p5, List.forall_mem_cons.mpr ⟨lw_p6, List.forall_mem_cons.mpr ⟨lw_p7, List.forall_mem_cons.mpr ⟨lw_p8, List.forall_mem_cons.mpr ⟨lw_p9, List.forall_mem_cons.mpr ⟨lw_p10, List.forall_mem_cons.mpr ⟨lw_p11, List.forall_mem_cons.mpr ⟨lw_p12, List.forall_mem_cons.mpr ⟨lw_p13, List.forall_mem_cons.mpr ⟨lw_p14, List.forall_mem_cons.mpr ⟨lw_p15, fun _ h => absurd h List.not_mem_nil⟩⟩⟩⟩⟩⟩⟩⟩⟩⟩⟩⟩⟩⟩⟩⟩
theorem lw_p16 : lw_okq (⟨"ThirstLead$Reader", "readPiece", "(II)Z"⟩, 6) := ⟨⟨by decide +kernel, by decide +kernel⟩, List.mem_of_getElem? (i := 178) (by decide +kernel), List.mem_of_getElem? (i := 698) (by decide +kernel), List.mem_of_getElem? (i := 699) (by decide +kernel)⟩
theorem lw_p17 : lw_okq (⟨"ThirstLead$Reader", "readNumber", "()Z"⟩, 6) := ⟨⟨by decide +kernel, by decide +kernel⟩, List.mem_of_getElem? (i := 178) (by decide +kernel), List.mem_of_getElem? (i := 702) (by decide +kernel), List.mem_of_getElem? (i := 703) (by decide +kernel)⟩
theorem lw_p18 : lw_okq (⟨"ThirstLead$Law", "addStep", "(I)V"⟩, 4) := ⟨⟨by decide +kernel, by decide +kernel⟩, List.mem_of_getElem? (i := 145) (by decide +kernel), List.mem_of_getElem? (i := 710) (by decide +kernel), List.mem_of_getElem? (i := 711) (by decide +kernel)⟩
theorem lw_p19 : lw_okq (⟨"ThirstLead$Reader", "readName", "()Z"⟩, 6) := ⟨⟨by decide +kernel, by decide +kernel⟩, List.mem_of_getElem? (i := 178) (by decide +kernel), List.mem_of_getElem? (i := 714) (by decide +kernel), List.mem_of_getElem? (i := 715) (by decide +kernel)⟩
theorem lw_p20 : lw_okq (⟨"ThirstLead$Reader", "readDenied", "(II)Z"⟩, 6) := ⟨⟨by decide +kernel, by decide +kernel⟩, List.mem_of_getElem? (i := 178) (by decide +kernel), List.mem_of_getElem? (i := 724) (by decide +kernel), List.mem_of_getElem? (i := 725) (by decide +kernel)⟩
theorem lw_p21 : lw_okq (⟨"ThirstLead$Reader", "readOpened", "(II)Z"⟩, 6) := ⟨⟨by decide +kernel, by decide +kernel⟩, List.mem_of_getElem? (i := 178) (by decide +kernel), List.mem_of_getElem? (i := 732) (by decide +kernel), List.mem_of_getElem? (i := 733) (by decide +kernel)⟩
theorem lw_p22 : lw_okq (⟨"ThirstLead", "waitedAt", "(III)Z"⟩, 11) := ⟨⟨by decide +kernel, by decide +kernel⟩, List.mem_of_getElem? (i := 18) (by decide +kernel), List.mem_of_getElem? (i := 822) (by decide +kernel), List.mem_of_getElem? (i := 823) (by decide +kernel)⟩
theorem lw_p23 : lw_okq (⟨"ThirstLeadModel", "comes", "(III)I"⟩, 34) := ⟨⟨by decide +kernel, by decide +kernel⟩, List.mem_of_getElem? (i := 838) (by decide +kernel), List.mem_of_getElem? (i := 958) (by decide +kernel), List.mem_of_getElem? (i := 959) (by decide +kernel)⟩
theorem lw_p24 : lw_okq (⟨"ThirstLeadModel", "put", "(III)V"⟩, 34) := ⟨⟨by decide +kernel, by decide +kernel⟩, List.mem_of_getElem? (i := 838) (by decide +kernel), List.mem_of_getElem? (i := 962) (by decide +kernel), List.mem_of_getElem? (i := 963) (by decide +kernel)⟩
theorem lw_p25 : lw_okq (⟨"ThirstLeadModel", "isWalker", "(I)Z"⟩, 34) := ⟨⟨by decide +kernel, by decide +kernel⟩, List.mem_of_getElem? (i := 838) (by decide +kernel), List.mem_of_getElem? (i := 970) (by decide +kernel), List.mem_of_getElem? (i := 971) (by decide +kernel)⟩
theorem lw_p26 : lw_okq (⟨"ThirstLeadModel", "of", "(II)I"⟩, 34) := ⟨⟨by decide +kernel, by decide +kernel⟩, List.mem_of_getElem? (i := 838) (by decide +kernel), List.mem_of_getElem? (i := 974) (by decide +kernel), List.mem_of_getElem? (i := 975) (by decide +kernel)⟩
theorem lw_p27 : lw_okq (⟨"ThirstLeadModel", "thirstsOf", "(I)I"⟩, 34) := ⟨⟨by decide +kernel, by decide +kernel⟩, List.mem_of_getElem? (i := 838) (by decide +kernel), List.mem_of_getElem? (i := 978) (by decide +kernel), List.mem_of_getElem? (i := 979) (by decide +kernel)⟩
theorem lw_p28 : lw_okq (⟨"ThirstLeadModel", "counts", "(I)I"⟩, 34) := ⟨⟨by decide +kernel, by decide +kernel⟩, List.mem_of_getElem? (i := 838) (by decide +kernel), List.mem_of_getElem? (i := 982) (by decide +kernel), List.mem_of_getElem? (i := 983) (by decide +kernel)⟩
theorem lw_p29 : lw_okq (⟨"ThirstLeadModel", "worksOut", "(I)I"⟩, 34) := ⟨⟨by decide +kernel, by decide +kernel⟩, List.mem_of_getElem? (i := 838) (by decide +kernel), List.mem_of_getElem? (i := 986) (by decide +kernel), List.mem_of_getElem? (i := 987) (by decide +kernel)⟩
theorem lw_p30 : lw_okq (⟨"ThirstLeadModel", "slakesOf", "(I)I"⟩, 34) := ⟨⟨by decide +kernel, by decide +kernel⟩, List.mem_of_getElem? (i := 838) (by decide +kernel), List.mem_of_getElem? (i := 996) (by decide +kernel), List.mem_of_getElem? (i := 997) (by decide +kernel)⟩
theorem lw_p31 : lw_okq (⟨"ThirstLeadModel", "goesOf", "(I)I"⟩, 34) := ⟨⟨by decide +kernel, by decide +kernel⟩, List.mem_of_getElem? (i := 838) (by decide +kernel), List.mem_of_getElem? (i := 1000) (by decide +kernel), List.mem_of_getElem? (i := 1001) (by decide +kernel)⟩
def lw_privs_2 : List (MethodName × Nat) := [(⟨"ThirstLead$Reader", "readPiece", "(II)Z"⟩, 6), (⟨"ThirstLead$Reader", "readNumber", "()Z"⟩, 6), (⟨"ThirstLead$Law", "addStep", "(I)V"⟩, 4), (⟨"ThirstLead$Reader", "readName", "()Z"⟩, 6), (⟨"ThirstLead$Reader", "readDenied", "(II)Z"⟩, 6), (⟨"ThirstLead$Reader", "readOpened", "(II)Z"⟩, 6), (⟨"ThirstLead", "waitedAt", "(III)Z"⟩, 11), (⟨"ThirstLeadModel", "comes", "(III)I"⟩, 34), (⟨"ThirstLeadModel", "put", "(III)V"⟩, 34), (⟨"ThirstLeadModel", "isWalker", "(I)Z"⟩, 34), (⟨"ThirstLeadModel", "of", "(II)I"⟩, 34), (⟨"ThirstLeadModel", "thirstsOf", "(I)I"⟩, 34), (⟨"ThirstLeadModel", "counts", "(I)I"⟩, 34), (⟨"ThirstLeadModel", "worksOut", "(I)I"⟩, 34), (⟨"ThirstLeadModel", "slakesOf", "(I)I"⟩, 34), (⟨"ThirstLeadModel", "goesOf", "(I)I"⟩, 34)]
theorem lw_r2 : ∀ q ∈ lw_privs_2, lw_okq q := List.forall_mem_cons.mpr ⟨lw_p16, List.forall_mem_cons.mpr ⟨lw_p17, List.forall_mem_cons.mpr ⟨lw_p18, List.forall_mem_cons.mpr ⟨lw_p19, List.forall_mem_cons.mpr ⟨lw_p20, List.forall_mem_cons.mpr ⟨lw_p21, List.forall_mem_cons.mpr ⟨lw_p22, List.forall_mem_cons.mpr ⟨lw_p23, List.forall_mem_cons.mpr ⟨lw_p24, List.forall_mem_cons.mpr ⟨lw_p25, List.forall_mem_cons.mpr ⟨lw_p26, List.forall_mem_cons.mpr ⟨lw_p27, List.forall_mem_cons.mpr ⟨lw_p28, List.forall_mem_cons.mpr ⟨lw_p29, List.forall_mem_cons.mpr ⟨lw_p30, List.forall_mem_cons.mpr ⟨lw_p31, fun _ h => absurd h List.not_mem_nil⟩⟩⟩⟩⟩⟩⟩⟩⟩⟩⟩⟩⟩⟩⟩⟩
theorem lw_p32 : lw_okq (⟨"ThirstLeadModel", "toWell", "()I"⟩, 34) := ⟨⟨by decide +kernel, by decide +kernel⟩, List.mem_of_getElem? (i := 838) (by decide +kernel), List.mem_of_getElem? (i := 1004) (by decide +kernel), List.mem_of_getElem? (i := 1005) (by decide +kernel)⟩
theorem lw_p33 : lw_okq (⟨"ThirstLeadModel", "plainly", "(I)I"⟩, 34) := ⟨⟨by decide +kernel, by decide +kernel⟩, List.mem_of_getElem? (i := 838) (by decide +kernel), List.mem_of_getElem? (i := 1008) (by decide +kernel), List.mem_of_getElem? (i := 1009) (by decide +kernel)⟩
theorem lw_p34 : lw_okq (⟨"ThirstLeadModel", "worthOf", "(I)I"⟩, 34) := ⟨⟨by decide +kernel, by decide +kernel⟩, List.mem_of_getElem? (i := 838) (by decide +kernel), List.mem_of_getElem? (i := 1012) (by decide +kernel), List.mem_of_getElem? (i := 1013) (by decide +kernel)⟩
theorem lw_p35 : lw_okq (⟨"ThirstLeadModel", "becomes", "(II)I"⟩, 34) := ⟨⟨by decide +kernel, by decide +kernel⟩, List.mem_of_getElem? (i := 838) (by decide +kernel), List.mem_of_getElem? (i := 1028) (by decide +kernel), List.mem_of_getElem? (i := 1029) (by decide +kernel)⟩
theorem lw_p36 : lw_okq (⟨"ThirstLeadModel", "draw", "()I"⟩, 34) := ⟨⟨by decide +kernel, by decide +kernel⟩, List.mem_of_getElem? (i := 838) (by decide +kernel), List.mem_of_getElem? (i := 1051) (by decide +kernel), List.mem_of_getElem? (i := 1052) (by decide +kernel)⟩
theorem lw_p37 : lw_okq (⟨"ThirstLeadModel", "goesOn", "(I)V"⟩, 34) := ⟨⟨by decide +kernel, by decide +kernel⟩, List.mem_of_getElem? (i := 838) (by decide +kernel), List.mem_of_getElem? (i := 1064) (by decide +kernel), List.mem_of_getElem? (i := 1065) (by decide +kernel)⟩
theorem lw_p38 : lw_okq (⟨"ThirstLeadModel", "hour", "()V"⟩, 34) := ⟨⟨by decide +kernel, by decide +kernel⟩, List.mem_of_getElem? (i := 838) (by decide +kernel), List.mem_of_getElem? (i := 1068) (by decide +kernel), List.mem_of_getElem? (i := 1069) (by decide +kernel)⟩
theorem lw_p39 : lw_okq (⟨"ThirstLeadModel", "leader", "()I"⟩, 34) := ⟨⟨by decide +kernel, by decide +kernel⟩, List.mem_of_getElem? (i := 838) (by decide +kernel), List.mem_of_getElem? (i := 1072) (by decide +kernel), List.mem_of_getElem? (i := 1073) (by decide +kernel)⟩
theorem lw_p40 : lw_okq (⟨"ThirstLeadModel", "lives", "(I)Z"⟩, 34) := ⟨⟨by decide +kernel, by decide +kernel⟩, List.mem_of_getElem? (i := 838) (by decide +kernel), List.mem_of_getElem? (i := 1076) (by decide +kernel), List.mem_of_getElem? (i := 1077) (by decide +kernel)⟩
theorem lw_p41 : lw_okq (⟨"ThirstLeadModel", "leads", "(I)V"⟩, 34) := ⟨⟨by decide +kernel, by decide +kernel⟩, List.mem_of_getElem? (i := 838) (by decide +kernel), List.mem_of_getElem? (i := 1080) (by decide +kernel), List.mem_of_getElem? (i := 1081) (by decide +kernel)⟩
theorem lw_p42 : lw_okq (⟨"ThirstLeadModel", "drinksAt", "(I)V"⟩, 34) := ⟨⟨by decide +kernel, by decide +kernel⟩, List.mem_of_getElem? (i := 838) (by decide +kernel), List.mem_of_getElem? (i := 1084) (by decide +kernel), List.mem_of_getElem? (i := 1085) (by decide +kernel)⟩
theorem lw_p43 : lw_okq (⟨"ThirstLeadModel", "slaked", "(I)V"⟩, 34) := ⟨⟨by decide +kernel, by decide +kernel⟩, List.mem_of_getElem? (i := 838) (by decide +kernel), List.mem_of_getElem? (i := 1088) (by decide +kernel), List.mem_of_getElem? (i := 1089) (by decide +kernel)⟩
theorem lw_p44 : lw_okq (⟨"ThirstLeadModel", "thirsts", "(I)V"⟩, 34) := ⟨⟨by decide +kernel, by decide +kernel⟩, List.mem_of_getElem? (i := 838) (by decide +kernel), List.mem_of_getElem? (i := 1092) (by decide +kernel), List.mem_of_getElem? (i := 1093) (by decide +kernel)⟩
theorem lw_p45 : lw_okq (⟨"ThirstLeadModel", "dies", "()V"⟩, 34) := ⟨⟨by decide +kernel, by decide +kernel⟩, List.mem_of_getElem? (i := 838) (by decide +kernel), List.mem_of_getElem? (i := 1096) (by decide +kernel), List.mem_of_getElem? (i := 1097) (by decide +kernel)⟩
theorem lw_p46 : lw_okq (⟨"ThirstLeadModel", "living", "()I"⟩, 34) := ⟨⟨by decide +kernel, by decide +kernel⟩, List.mem_of_getElem? (i := 838) (by decide +kernel), List.mem_of_getElem? (i := 1108) (by decide +kernel), List.mem_of_getElem? (i := 1109) (by decide +kernel)⟩
theorem lw_p47 : lw_okq (⟨"ThirstLeadModel", "allThirst", "()I"⟩, 34) := ⟨⟨by decide +kernel, by decide +kernel⟩, List.mem_of_getElem? (i := 838) (by decide +kernel), List.mem_of_getElem? (i := 1112) (by decide +kernel), List.mem_of_getElem? (i := 1113) (by decide +kernel)⟩
def lw_privs_3 : List (MethodName × Nat) := [(⟨"ThirstLeadModel", "toWell", "()I"⟩, 34), (⟨"ThirstLeadModel", "plainly", "(I)I"⟩, 34), (⟨"ThirstLeadModel", "worthOf", "(I)I"⟩, 34), (⟨"ThirstLeadModel", "becomes", "(II)I"⟩, 34), (⟨"ThirstLeadModel", "draw", "()I"⟩, 34), (⟨"ThirstLeadModel", "goesOn", "(I)V"⟩, 34), (⟨"ThirstLeadModel", "hour", "()V"⟩, 34), (⟨"ThirstLeadModel", "leader", "()I"⟩, 34), (⟨"ThirstLeadModel", "lives", "(I)Z"⟩, 34), (⟨"ThirstLeadModel", "leads", "(I)V"⟩, 34), (⟨"ThirstLeadModel", "drinksAt", "(I)V"⟩, 34), (⟨"ThirstLeadModel", "slaked", "(I)V"⟩, 34), (⟨"ThirstLeadModel", "thirsts", "(I)V"⟩, 34), (⟨"ThirstLeadModel", "dies", "()V"⟩, 34), (⟨"ThirstLeadModel", "living", "()I"⟩, 34), (⟨"ThirstLeadModel", "allThirst", "()I"⟩, 34)]
theorem lw_r3 : ∀ q ∈ lw_privs_3, lw_okq q := List.forall_mem_cons.mpr ⟨lw_p32, List.forall_mem_cons.mpr ⟨lw_p33, List.forall_mem_cons.mpr ⟨lw_p34, List.forall_mem_cons.mpr ⟨lw_p35, List.forall_mem_cons.mpr ⟨lw_p36, List.forall_mem_cons.mpr ⟨lw_p37, List.forall_mem_cons.mpr ⟨lw_p38, List.forall_mem_cons.mpr ⟨lw_p39, List.forall_mem_cons.mpr ⟨lw_p40, List.forall_mem_cons.mpr ⟨lw_p41, List.forall_mem_cons.mpr ⟨lw_p42, List.forall_mem_cons.mpr ⟨lw_p43, List.forall_mem_cons.mpr ⟨lw_p44, List.forall_mem_cons.mpr ⟨lw_p45, List.forall_mem_cons.mpr ⟨lw_p46, List.forall_mem_cons.mpr ⟨lw_p47, fun _ h => absurd h List.not_mem_nil⟩⟩⟩⟩⟩⟩⟩⟩⟩⟩⟩⟩⟩⟩⟩⟩
theorem lw_p48 : lw_okq (⟨"ThirstLeadModel", "thinks", "()V"⟩, 34) := ⟨⟨by decide +kernel, by decide +kernel⟩, List.mem_of_getElem? (i := 838) (by decide +kernel), List.mem_of_getElem? (i := 1120) (by decide +kernel), List.mem_of_getElem? (i := 1121) (by decide +kernel)⟩
theorem lw_p49 : lw_okq (⟨"ThirstLeadModel", "putsBack", "()V"⟩, 34) := ⟨⟨by decide +kernel, by decide +kernel⟩, List.mem_of_getElem? (i := 838) (by decide +kernel), List.mem_of_getElem? (i := 1124) (by decide +kernel), List.mem_of_getElem? (i := 1125) (by decide +kernel)⟩
theorem lw_p50 : lw_okq (⟨"ThirstLeadModel", "deathsBehind", "(I)I"⟩, 34) := ⟨⟨by decide +kernel, by decide +kernel⟩, List.mem_of_getElem? (i := 838) (by decide +kernel), List.mem_of_getElem? (i := 1136) (by decide +kernel), List.mem_of_getElem? (i := 1137) (by decide +kernel)⟩
theorem lw_p51 : lw_okq (⟨"ThirstLeadModel", "offBy", "(III)J"⟩, 34) := ⟨⟨by decide +kernel, by decide +kernel⟩, List.mem_of_getElem? (i := 838) (by decide +kernel), List.mem_of_getElem? (i := 1164) (by decide +kernel), List.mem_of_getElem? (i := 1165) (by decide +kernel)⟩
theorem lw_p52 : lw_okq (⟨"ThirstLeadModel", "go", "()V"⟩, 34) := ⟨⟨by decide +kernel, by decide +kernel⟩, List.mem_of_getElem? (i := 838) (by decide +kernel), List.mem_of_getElem? (i := 1188) (by decide +kernel), List.mem_of_getElem? (i := 1189) (by decide +kernel)⟩
theorem lw_p53 : lw_okq (⟨"ThirstLeadModel", "isLetter", "(I)Z"⟩, 34) := ⟨⟨by decide +kernel, by decide +kernel⟩, List.mem_of_getElem? (i := 838) (by decide +kernel), List.mem_of_getElem? (i := 1192) (by decide +kernel), List.mem_of_getElem? (i := 1193) (by decide +kernel)⟩
theorem lw_p54 : lw_okq (⟨"ThirstLeadModel", "isFigure", "(I)Z"⟩, 34) := ⟨⟨by decide +kernel, by decide +kernel⟩, List.mem_of_getElem? (i := 838) (by decide +kernel), List.mem_of_getElem? (i := 1196) (by decide +kernel), List.mem_of_getElem? (i := 1197) (by decide +kernel)⟩
theorem lw_p55 : lw_okq (⟨"ThirstLeadModel", "takesKey", "()Z"⟩, 34) := ⟨⟨by decide +kernel, by decide +kernel⟩, List.mem_of_getElem? (i := 838) (by decide +kernel), List.mem_of_getElem? (i := 1200) (by decide +kernel), List.mem_of_getElem? (i := 1201) (by decide +kernel)⟩
theorem lw_p56 : lw_okq (⟨"ThirstLeadModel", "takesE", "()Z"⟩, 34) := ⟨⟨by decide +kernel, by decide +kernel⟩, List.mem_of_getElem? (i := 838) (by decide +kernel), List.mem_of_getElem? (i := 1204) (by decide +kernel), List.mem_of_getElem? (i := 1205) (by decide +kernel)⟩
theorem lw_p57 : lw_okq (⟨"ThirstLeadModel", "takesPart", "()Z"⟩, 34) := ⟨⟨by decide +kernel, by decide +kernel⟩, List.mem_of_getElem? (i := 838) (by decide +kernel), List.mem_of_getElem? (i := 1208) (by decide +kernel), List.mem_of_getElem? (i := 1209) (by decide +kernel)⟩
theorem lw_p58 : lw_okq (⟨"ThirstLeadModel", "nameOf", "(I)I"⟩, 34) := ⟨⟨by decide +kernel, by decide +kernel⟩, List.mem_of_getElem? (i := 838) (by decide +kernel), List.mem_of_getElem? (i := 1212) (by decide +kernel), List.mem_of_getElem? (i := 1213) (by decide +kernel)⟩
theorem lw_p59 : lw_okq (⟨"ThirstLeadModel", "settle", "(I)V"⟩, 34) := ⟨⟨by decide +kernel, by decide +kernel⟩, List.mem_of_getElem? (i := 838) (by decide +kernel), List.mem_of_getElem? (i := 1216) (by decide +kernel), List.mem_of_getElem? (i := 1217) (by decide +kernel)⟩
theorem lw_p60 : lw_okq (⟨"ThirstLeadModel", "notsOpen", "()I"⟩, 34) := ⟨⟨by decide +kernel, by decide +kernel⟩, List.mem_of_getElem? (i := 838) (by decide +kernel), List.mem_of_getElem? (i := 1223) (by decide +kernel), List.mem_of_getElem? (i := 1224) (by decide +kernel)⟩
theorem lw_p61 : lw_okq (⟨"ThirstLeadModel", "signHere", "()I"⟩, 34) := ⟨⟨by decide +kernel, by decide +kernel⟩, List.mem_of_getElem? (i := 838) (by decide +kernel), List.mem_of_getElem? (i := 1227) (by decide +kernel), List.mem_of_getElem? (i := 1228) (by decide +kernel)⟩
def lw_privs_4 : List (MethodName × Nat) := [(⟨"ThirstLeadModel", "thinks", "()V"⟩, 34), (⟨"ThirstLeadModel", "putsBack", "()V"⟩, 34), (⟨"ThirstLeadModel", "deathsBehind", "(I)I"⟩, 34), (⟨"ThirstLeadModel", "offBy", "(III)J"⟩, 34), (⟨"ThirstLeadModel", "go", "()V"⟩, 34), (⟨"ThirstLeadModel", "isLetter", "(I)Z"⟩, 34), (⟨"ThirstLeadModel", "isFigure", "(I)Z"⟩, 34), (⟨"ThirstLeadModel", "takesKey", "()Z"⟩, 34), (⟨"ThirstLeadModel", "takesE", "()Z"⟩, 34), (⟨"ThirstLeadModel", "takesPart", "()Z"⟩, 34), (⟨"ThirstLeadModel", "nameOf", "(I)I"⟩, 34), (⟨"ThirstLeadModel", "settle", "(I)V"⟩, 34), (⟨"ThirstLeadModel", "notsOpen", "()I"⟩, 34), (⟨"ThirstLeadModel", "signHere", "()I"⟩, 34)]
theorem lw_r4 : ∀ q ∈ lw_privs_4, lw_okq q := List.forall_mem_cons.mpr ⟨lw_p48, List.forall_mem_cons.mpr ⟨lw_p49, List.forall_mem_cons.mpr ⟨lw_p50, List.forall_mem_cons.mpr ⟨lw_p51, List.forall_mem_cons.mpr ⟨lw_p52, List.forall_mem_cons.mpr ⟨lw_p53, List.forall_mem_cons.mpr ⟨lw_p54, List.forall_mem_cons.mpr ⟨lw_p55, List.forall_mem_cons.mpr ⟨lw_p56, List.forall_mem_cons.mpr ⟨lw_p57, List.forall_mem_cons.mpr ⟨lw_p58, List.forall_mem_cons.mpr ⟨lw_p59, List.forall_mem_cons.mpr ⟨lw_p60, List.forall_mem_cons.mpr ⟨lw_p61, fun _ h => absurd h List.not_mem_nil⟩⟩⟩⟩⟩⟩⟩⟩⟩⟩⟩⟩⟩⟩
def lw_privs : List (MethodName × Nat) := lw_privs_1 ++ (lw_privs_2 ++ (lw_privs_3 ++ (lw_privs_4)))
def lw_tbl : List Cond := k2_sels lw_privs ++ tables_1
theorem lw_privs_ok : ∀ q ∈ lw_privs, lw_okq q := by
  show ∀ q ∈ lw_privs_1 ++ (lw_privs_2 ++ (lw_privs_3 ++ (lw_privs_4))), lw_okq q
  exact List.forall_mem_append.mpr ⟨lw_r1, List.forall_mem_append.mpr ⟨lw_r2, List.forall_mem_append.mpr ⟨lw_r3, lw_r4⟩⟩⟩
-- ===== end of PART A; then your names; then what follows =====
end
section
def lwa (j : Nat) : Option Cond := if j < 62 then (k2_sels lw_privs)[j]? else if j < 302 then tables_1_1[j - 62]? else if j < 542 then tables_1_2[j - 302]? else if j < 782 then tables_1_3[j - 542]? else if j < 1022 then tables_1_4[j - 782]? else if j < 1262 then tables_1_5[j - 1022]? else tables_1_6[j - 1262]?
theorem lwa_mem {j : Nat} {w : Cond} (h : lwa j = some w) : w ∈ lw_tbl := by
  unfold lwa at h
  unfold lw_tbl tables_1
  simp only [List.mem_append]
  split at h
  · exact Or.inl (List.mem_of_getElem? h)
  split at h
  · exact Or.inr (Or.inl (List.mem_of_getElem? h))
  split at h
  · exact Or.inr (Or.inr (Or.inl (List.mem_of_getElem? h)))
  split at h
  · exact Or.inr (Or.inr (Or.inr (Or.inl (List.mem_of_getElem? h))))
  split at h
  · exact Or.inr (Or.inr (Or.inr (Or.inr (Or.inl (List.mem_of_getElem? h)))))
  split at h
  · exact Or.inr (Or.inr (Or.inr (Or.inr (Or.inr (Or.inl (List.mem_of_getElem? h))))))
  · exact Or.inr (Or.inr (Or.inr (Or.inr (Or.inr (Or.inr (List.mem_of_getElem? h))))))
def TX0 : u_T := fun k => match k with
  | 0 => ("ThirstLead$Best", "which", "I", false)
  | _ => ("ThirstLead$Best", "least", "I", false)
def tyX0 : Nat → FieldType := fun k => match k with
  | 0 => .int
  | _ => .int
def TX1 : u_T := fun k => match k with
  | 0 => ("ThirstLead$Desert", "water", "[I", true)
  | 1 => ("ThirstLead$Desert", "walkers", "[LThirstLead$Walker;", true)
  | 2 => ("ThirstLead$Desert", "size", "I", false)
  | 3 => ("ThirstLead$Desert", "cell", "I", false)
  | 4 => ("ThirstLead$Desert", "heat", "I", false)
  | 5 => ("ThirstLead$Desert", "sip", "I", false)
  | 6 => ("ThirstLead$Desert", "mirage", "I", false)
  | 7 => ("ThirstLead$Desert", "deadly", "I", false)
  | 8 => ("ThirstLead$Desert", "deaths", "I", false)
  | 9 => ("ThirstLead$Desert", "lost", "I", false)
  | 10 => ("ThirstLead$Desert", "hour", "I", false)
  | 11 => ("ThirstLead$Desert", "z", "I", false)
  | _ => ("ThirstLead$Desert", "texts", "I", false)
def tyX1 : Nat → FieldType := fun k => match k with
  | 0 => .array .int
  | 1 => .array (.object "ThirstLead$Walker")
  | 2 => .int
  | 3 => .int
  | 4 => .int
  | 5 => .int
  | 6 => .int
  | 7 => .int
  | 8 => .int
  | 9 => .int
  | 10 => .int
  | 11 => .int
  | _ => .int
def TX2 : u_T := fun k => match k with
  | 0 => ("ThirstLead$Law", "steps", "[I", true)
  | 1 => ("ThirstLead$Law", "length", "I", false)
  | 2 => ("ThirstLead$Law", "key", "I", false)
  | _ => ("ThirstLead$Law", "operands", "I", false)
def tyX2 : Nat → FieldType := fun k => match k with
  | 0 => .array .int
  | 1 => .int
  | 2 => .int
  | _ => .int
def TX3 : u_T := fun k => match k with
  | 0 => ("ThirstLead$Laws", "laws", "[LThirstLead$Law;", true)
  | _ => ("ThirstLead$Laws", "stack", "[I", true)
def tyX3 : Nat → FieldType := fun k => match k with
  | 0 => .array (.object "ThirstLead$Law")
  | _ => .array .int
def TX4 : u_T := fun k => match k with
  | 0 => ("ThirstLead$Reader", "read", "LThirstLead$Law;", true)
  | 1 => ("ThirstLead$Reader", "length", "I", false)
  | 2 => ("ThirstLead$Reader", "place", "I", false)
  | 3 => ("ThirstLead$Reader", "bytes", "[I", true)
  | 4 => ("ThirstLead$Reader", "after", "I", false)
  | _ => ("ThirstLead$Reader", "seen", "I", false)
def tyX4 : Nat → FieldType := fun k => match k with
  | 0 => .object "ThirstLead$Law"
  | 1 => .int
  | 2 => .int
  | 3 => .array .int
  | 4 => .int
  | _ => .int
def TX5 : u_T := fun k => match k with
  | 0 => ("ThirstLead$Sheet", "places", "[I", true)
  | 1 => ("ThirstLead$Sheet", "sort", "I", false)
  | _ => ("ThirstLead$Sheet", "size", "I", false)
def tyX5 : Nat → FieldType := fun k => match k with
  | 0 => .array .int
  | 1 => .int
  | _ => .int
def TX6 : u_T := fun k => match k with
  | 0 => ("ThirstLead$Slot", "walker", "LThirstLead$Walker;", true)
  | 1 => ("ThirstLead$Slot", "sheet", "LThirstLead$Sheet;", true)
  | 2 => ("ThirstLead$Slot", "thing", "I", false)
  | _ => ("ThirstLead$Slot", "number", "I", false)
def tyX6 : Nat → FieldType := fun k => match k with
  | 0 => .object "ThirstLead$Walker"
  | 1 => .object "ThirstLead$Sheet"
  | 2 => .int
  | _ => .int
def TX7 : u_T := fun k => match k with
  | 0 => ("ThirstLead$Walker", "kind", "I", false)
  | 1 => ("ThirstLead$Walker", "thirst", "I", false)
  | 2 => ("ThirstLead$Walker", "skin", "I", false)
  | 3 => ("ThirstLead$Walker", "knows", "I", false)
  | 4 => ("ThirstLead$Walker", "led", "I", false)
  | _ => ("ThirstLead$Walker", "lives", "Z", false)
def tyX7 : Nat → FieldType := fun k => match k with
  | 0 => .int
  | 1 => .int
  | 2 => .int
  | 3 => .int
  | 4 => .int
  | _ => .boolean
def TX8 : u_T := fun k => match k with
  | 0 => ("ThirstLead", "now", "LThirstLead$Desert;", true)
  | 1 => ("ThirstLead", "image", "LThirstLead$Desert;", true)
  | 2 => ("ThirstLead", "thought", "LThirstLead$Desert;", true)
  | 3 => ("ThirstLead", "best", "LThirstLead$Best;", true)
  | 4 => ("ThirstLead", "laws", "LThirstLead$Laws;", true)
  | 5 => ("ThirstLead", "reader", "LThirstLead$Reader;", true)
  | 6 => ("ThirstLead", "sheets", "[LThirstLead$Sheet;", true)
  | 7 => ("ThirstLead", "slots", "[LThirstLead$Slot;", true)
  | 8 => ("ThirstLead", "waiting", "[I", true)
  | 9 => ("ThirstLead", "waits", "I", false)
  | _ => ("ThirstLead", "imageKept", "Z", false)
def tyX8 : Nat → FieldType := fun k => match k with
  | 0 => .object "ThirstLead$Desert"
  | 1 => .object "ThirstLead$Desert"
  | 2 => .object "ThirstLead$Desert"
  | 3 => .object "ThirstLead$Best"
  | 4 => .object "ThirstLead$Laws"
  | 5 => .object "ThirstLead$Reader"
  | 6 => .array (.object "ThirstLead$Sheet")
  | 7 => .array (.object "ThirstLead$Slot")
  | 8 => .array .int
  | 9 => .int
  | _ => .boolean
def TX9 : u_T := fun k => match k with
  | 0 => ("ThirstLeadModel", "now", "[I", true)
  | 1 => ("ThirstLeadModel", "image", "[I", true)
  | 2 => ("ThirstLeadModel", "aside", "[I", true)
  | 3 => ("ThirstLeadModel", "hasImage", "Z", false)
  | 4 => ("ThirstLeadModel", "isHeld", "Z", false)
  | 5 => ("ThirstLeadModel", "before", "[I", true)
  | 6 => ("ThirstLeadModel", "tape", "[I", true)
  | 7 => ("ThirstLeadModel", "taped", "I", false)
  | 8 => ("ThirstLeadModel", "next", "I", false)
  | 9 => ("ThirstLeadModel", "from", "I", false)
  | 10 => ("ThirstLeadModel", "token", "I", false)
  | 11 => ("ThirstLeadModel", "value", "I", false)
  | 12 => ("ThirstLeadModel", "ended", "I", false)
  | 13 => ("ThirstLeadModel", "key", "I", false)
  | 14 => ("ThirstLeadModel", "keys", "[C", true)
  | 15 => ("ThirstLeadModel", "keyAt", "[I", true)
  | 16 => ("ThirstLeadModel", "code", "[I", true)
  | 17 => ("ThirstLeadModel", "codes", "I", false)
  | 18 => ("ThirstLeadModel", "atoms", "I", false)
  | 19 => ("ThirstLeadModel", "waits", "[I", true)
  | 20 => ("ThirstLeadModel", "held", "I", false)
  | 21 => ("ThirstLeadModel", "tested", "[Z", true)
  | 22 => ("ThirstLeadModel", "stack", "[I", true)
  | 23 => ("ThirstLeadModel", "facts", "[I", true)
  | 24 => ("ThirstLeadModel", "sorts", "[I", true)
  | 25 => ("ThirstLeadModel", "sizes", "[I", true)
  | 26 => ("ThirstLeadModel", "cells", "[I", true)
  | 27 => ("ThirstLeadModel", "holds", "[I", true)
  | 28 => ("ThirstLeadModel", "holdsA", "[I", true)
  | 29 => ("ThirstLeadModel", "holdsB", "[I", true)
  | 30 => ("ThirstLeadModel", "heldCells", "[I", true)
  | 31 => ("ThirstLeadModel", "moved", "[I", true)
  | 32 => ("ThirstLeadModel", "saidBy", "[I", true)
  | _ => ("ThirstLeadModel", "waiting", "I", false)
def tyX9 : Nat → FieldType := fun k => match k with
  | 0 => .array .int
  | 1 => .array .int
  | 2 => .array .int
  | 3 => .boolean
  | 4 => .boolean
  | 5 => .array .int
  | 6 => .array .int
  | 7 => .int
  | 8 => .int
  | 9 => .int
  | 10 => .int
  | 11 => .int
  | 12 => .int
  | 13 => .int
  | 14 => .array .char
  | 15 => .array .int
  | 16 => .array .int
  | 17 => .int
  | 18 => .int
  | 19 => .array .int
  | 20 => .int
  | 21 => .array .boolean
  | 22 => .array .int
  | 23 => .array .int
  | 24 => .array .int
  | 25 => .array .int
  | 26 => .array .int
  | 27 => .array .int
  | 28 => .array .int
  | 29 => .array .int
  | 30 => .array .int
  | 31 => .array .int
  | 32 => .array .int
  | _ => .int
def oN : Nat → String := fun c => match c with
  | 0 => "ThirstLead$Best"
  | 1 => "ThirstLead$Desert"
  | 2 => "ThirstLead$Law"
  | 3 => "ThirstLead$Laws"
  | 4 => "ThirstLead$Reader"
  | 5 => "ThirstLead$Sheet"
  | 6 => "ThirstLead$Slot"
  | 7 => "ThirstLead$Walker"
  | 8 => "ThirstLead"
  | 9 => "ThirstLeadModel"
  | 10 => "ThirstLeadLaw"
  | 11 => "java/lang/Math"
  | 12 => "java/lang/String"
  | 13 => "java/lang/StringLatin1"
  | 14 => "java/lang/StringUTF16"
  | 15 => "jdk/internal/util/Preconditions"
  | 16 => "java/lang/System"
  | _ => "java/lang/Object"
def cT : Nat → u_T := fun c => match c with
  | 0 => TX0
  | 1 => TX1
  | 2 => TX2
  | 3 => TX3
  | 4 => TX4
  | 5 => TX5
  | 6 => TX6
  | 7 => TX7
  | 8 => TX8
  | _ => TX9
def cY : Nat → Nat → FieldType := fun c => match c with
  | 0 => tyX0
  | 1 => tyX1
  | 2 => tyX2
  | 3 => tyX3
  | 4 => tyX4
  | 5 => tyX5
  | 6 => tyX6
  | 7 => tyX7
  | 8 => tyX8
  | _ => tyX9
def cN : Nat → Nat := fun c => match c with
  | 0 => 2
  | 1 => 13
  | 2 => 4
  | 3 => 2
  | 4 => 6
  | 5 => 3
  | 6 => 4
  | 7 => 6
  | 8 => 11
  | _ => 34
def classes : List vw_C := (List.range 10).map fun c => (oN c, cT c, cN c)
theorem classes_at {c : Nat} (h : c < 10) : classes[c]? = some (oN c, cT c, cN c) := by simp [classes, h]
abbrev MTy : Type := MethodName × ByteArray × Nat × Option FieldType × Nat × Nat × Nat × Nat
def mT0 : List MTy := [
  (⟨"ThirstLead$Best", "<init>", "()V"⟩, prog_2_method_1_code, 1, none, 0, 0, 189, 66),
  (⟨"ThirstLead$Best", "starts", "()V"⟩, prog_2_method_2_code, 1, none, 0, 0, 589, 66),
  (⟨"ThirstLead$Best", "offer", "(II)V"⟩, prog_2_method_3_code, 3, none, 0, 2, 593, 66),
  (⟨"ThirstLead$Best", "chosen", "(I)I"⟩, prog_2_method_4_code, 2, (some .int), 0, 1, 597, 66),
  (⟨"ThirstLead$Desert", "<init>", "()V"⟩, prog_3_method_1_code, 2, none, 1, 0, 91, 64),
  (⟨"ThirstLead$Desert", "join", "(III)I"⟩, prog_3_method_5_code, 4, (some .int), 1, 3, 365, 64),
  (⟨"ThirstLead$Desert", "has", "(I)Z"⟩, prog_3_method_3_code, 2, (some .boolean), 1, 1, 378, 64),
  (⟨"ThirstLead$Desert", "thirsts", "(LThirstLead$Walker;LThirstLead$Laws;)I"⟩, prog_3_method_14_code, 5, (some .int), 1, 2, 382, 64),
  (⟨"ThirstLead$Desert", "goes", "(LThirstLead$Walker;)I"⟩, prog_3_method_15_code, 2, (some .int), 1, 1, 416, 64),
  (⟨"ThirstLead$Desert", "wayToWell", "()I"⟩, prog_3_method_17_code, 2, (some .int), 1, 0, 420, 64),
  (⟨"ThirstLead$Desert", "wayTo", "(I)I"⟩, prog_3_method_16_code, 3, (some .int), 1, 1, 427, 64),
  (⟨"ThirstLead$Desert", "ruleBecomes", "(II)I"⟩, prog_3_method_8_code, 4, (some .int), 1, 2, 466, 64),
  (⟨"ThirstLead$Desert", "joinByLot", "()V"⟩, prog_3_method_6_code, 4, none, 1, 0, 474, 64),
  (⟨"ThirstLead$Desert", "draw", "()I"⟩, prog_3_method_7_code, 1, (some .int), 1, 0, 478, 64),
  (⟨"ThirstLead$Desert", "passHour", "(LThirstLead$Laws;Z)V"⟩, prog_3_method_18_code, 3, none, 1, 2, 496, 64),
  (⟨"ThirstLead$Desert", "leader", "()I"⟩, prog_3_method_9_code, 3, (some .int), 1, 0, 500, 64),
  (⟨"ThirstLead$Desert", "followLeader", "()V"⟩, prog_3_method_19_code, 3, none, 1, 0, 504, 64),
  (⟨"ThirstLead$Desert", "drinkAtWell", "()V"⟩, prog_3_method_20_code, 2, none, 1, 0, 509, 64),
  (⟨"ThirstLead$Desert", "thirstAndSip", "(LThirstLead$Laws;)V"⟩, prog_3_method_21_code, 3, none, 1, 1, 524, 64),
  (⟨"ThirstLead$Desert", "loseDead", "()V"⟩, prog_3_method_22_code, 4, none, 1, 0, 533, 64)
]
def mT1 : List MTy := [
  (⟨"ThirstLead$Desert", "living", "()I"⟩, prog_3_method_10_code, 3, (some .int), 1, 0, 544, 64),
  (⟨"ThirstLead$Desert", "thirstTogether", "()I"⟩, prog_3_method_11_code, 3, (some .int), 1, 0, 548, 64),
  (⟨"ThirstLead$Desert", "wells", "()I"⟩, prog_3_method_12_code, 3, (some .int), 1, 0, 552, 64),
  (⟨"ThirstLead$Desert", "becomes", "(LThirstLead$Desert;)V"⟩, prog_3_method_2_code, 3, none, 1, 1, 560, 64),
  (⟨"ThirstLead$Desert", "thirstOf", "(I)I"⟩, prog_3_method_4_code, 2, (some .int), 1, 1, 571, 64),
  (⟨"ThirstLead$Desert", "shareOut", "(I)V"⟩, prog_3_method_13_code, 3, none, 1, 1, 613, 64),
  (⟨"ThirstLead$Law", "<init>", "()V"⟩, prog_4_method_1_code, 1, none, 2, 0, 210, 68),
  (⟨"ThirstLead$Law", "starts", "()V"⟩, prog_4_method_2_code, 1, none, 2, 0, 676, 68),
  (⟨"ThirstLead$Law", "addOperand", "(I)V"⟩, prog_4_method_4_code, 2, none, 2, 1, 770, 68),
  (⟨"ThirstLead$Law", "addStep", "(I)V"⟩, prog_4_method_6_code, 2, none, 2, 1, 774, 68),
  (⟨"ThirstLead$Law", "addSign", "(I)V"⟩, prog_4_method_5_code, 2, none, 2, 1, 792, 68),
  (⟨"ThirstLead$Law", "becomes", "(LThirstLead$Law;)V"⟩, prog_4_method_3_code, 2, none, 2, 1, 803, 68),
  (⟨"ThirstLead$Laws", "<init>", "()V"⟩, prog_5_method_1_code, 2, none, 3, 0, 203, 67),
  (⟨"ThirstLead$Laws", "latest", "(II)I"⟩, prog_5_method_2_code, 4, (some .int), 3, 2, 386, 67),
  (⟨"ThirstLead$Laws", "gives", "(IIII)I"⟩, prog_5_method_3_code, 9, (some .int), 3, 4, 395, 67),
  (⟨"ThirstLead$Laws", "named", "(IIII)I"⟩, prog_5_method_4_code, 4, (some .int), 3, 4, 398, 67),
  (⟨"ThirstLead$Laws", "joined", "(III)I"⟩, prog_5_method_5_code, 3, (some .int), 3, 3, 401, 67),
  (⟨"ThirstLead$Reader", "<init>", "()V"⟩, prog_6_method_1_code, 1, none, 4, 0, 243, 69),
  (⟨"ThirstLead$Reader", "takeBytes", "(I)V"⟩, prog_6_method_2_code, 3, none, 4, 1, 660, 69),
  (⟨"ThirstLead$Reader", "readText", "()Z"⟩, prog_6_method_3_code, 1, (some .boolean), 4, 0, 672, 69)
]
def mT2 : List MTy := [
  (⟨"ThirstLead$Reader", "step", "()V"⟩, prog_6_method_4_code, 3, none, 4, 0, 680, 69),
  (⟨"ThirstLead$Reader", "isWord", "()Z"⟩, prog_6_method_5_code, 1, (some .boolean), 4, 0, 684, 69),
  (⟨"ThirstLead$Reader", "skipped", "(III)I"⟩, prog_6_method_7_code, 5, (some .int), 4, 3, 688, 69),
  (⟨"ThirstLead$Reader", "isIn", "(III)Z"⟩, prog_6_method_6_code, 4, (some .boolean), 4, 3, 692, 69),
  (⟨"ThirstLead$Reader", "readKey", "()Z"⟩, prog_6_method_8_code, 2, (some .boolean), 4, 0, 696, 69),
  (⟨"ThirstLead$Reader", "wordOf", "(I)Ljava/lang/String;"⟩, prog_6_method_9_code, 1, (some ((.object "java/lang/String"))), 4, 1, 699, 69),
  (⟨"ThirstLead$Reader", "stands", "(Ljava/lang/String;)Z"⟩, prog_6_method_11_code, 3, (some .boolean), 4, 1, 706, 69),
  (⟨"ThirstLead$Reader", "readLevel", "(III)Z"⟩, prog_6_method_12_code, 7, (some .boolean), 4, 3, 758, 69),
  (⟨"ThirstLead$Reader", "readPiece", "(II)Z"⟩, prog_6_method_14_code, 3, (some .boolean), 4, 2, 762, 69),
  (⟨"ThirstLead$Reader", "readNumber", "()Z"⟩, prog_6_method_15_code, 3, (some .boolean), 4, 0, 766, 69),
  (⟨"ThirstLead$Reader", "readName", "()Z"⟩, prog_6_method_16_code, 3, (some .boolean), 4, 0, 778, 69),
  (⟨"ThirstLead$Reader", "namesOf", "(I)Ljava/lang/String;"⟩, prog_6_method_10_code, 1, (some ((.object "java/lang/String"))), 4, 1, 781, 69),
  (⟨"ThirstLead$Reader", "readDenied", "(II)Z"⟩, prog_6_method_17_code, 3, (some .boolean), 4, 2, 788, 69),
  (⟨"ThirstLead$Reader", "readOpened", "(II)Z"⟩, prog_6_method_18_code, 3, (some .boolean), 4, 2, 796, 69),
  (⟨"ThirstLead$Reader", "joins", "(II)Z"⟩, prog_6_method_13_code, 2, (some .boolean), 4, 2, 799, 69),
  (⟨"ThirstLead$Sheet", "<init>", "()V"⟩, prog_7_method_1_code, 1, none, 5, 0, 276, 70),
  (⟨"ThirstLead$Sheet", "hasNumber", "(I)Z"⟩, prog_7_method_5_code, 2, (some .boolean), 5, 1, 633, 70),
  (⟨"ThirstLead$Sheet", "has", "(I)Z"⟩, prog_7_method_4_code, 2, (some .boolean), 5, 1, 637, 70),
  (⟨"ThirstLead$Sheet", "starts", "(II)V"⟩, prog_7_method_2_code, 4, none, 5, 2, 822, 70),
  (⟨"ThirstLead$Sheet", "hasRow", "(II)Z"⟩, prog_7_method_6_code, 3, (some .boolean), 5, 2, 847, 70)
]
def mT3 : List MTy := [
  (⟨"ThirstLead$Sheet", "becomes", "(LThirstLead$Sheet;)V"⟩, prog_7_method_3_code, 2, none, 5, 1, 860, 70),
  (⟨"ThirstLead$Slot", "<init>", "()V"⟩, prog_8_method_1_code, 1, none, 6, 0, 294, 71),
  (⟨"ThirstLead$Walker", "<init>", "()V"⟩, prog_9_method_1_code, 1, none, 7, 0, 98, 65),
  (⟨"ThirstLead$Walker", "starts", "(III)V"⟩, prog_9_method_2_code, 4, none, 7, 3, 370, 65),
  (⟨"ThirstLead$Walker", "slakes", "()I"⟩, prog_9_method_5_code, 1, (some .int), 7, 0, 412, 65),
  (⟨"ThirstLead$Walker", "worth", "()I"⟩, prog_9_method_6_code, 1, (some .int), 7, 0, 431, 65),
  (⟨"ThirstLead$Walker", "isOf", "(I)Z"⟩, prog_9_method_4_code, 2, (some .boolean), 7, 1, 439, 65),
  (⟨"ThirstLead$Walker", "drinkFrom", "(I)I"⟩, prog_9_method_8_code, 4, (some .int), 7, 1, 513, 65),
  (⟨"ThirstLead$Walker", "drinkCup", "()V"⟩, prog_9_method_7_code, 1, none, 7, 0, 517, 65),
  (⟨"ThirstLead$Walker", "thirstBy", "(II)V"⟩, prog_9_method_9_code, 5, none, 7, 2, 529, 65),
  (⟨"ThirstLead$Walker", "becomes", "(LThirstLead$Walker;)V"⟩, prog_9_method_3_code, 2, none, 7, 1, 567, 65),
  (⟨"ThirstLead", "<init>", "()V"⟩, prog_1_method_1_code, 2, none, 8, 0, 83, 63),
  (⟨"ThirstLead", "walker", "(III)I"⟩, prog_1_method_2_code, 4, (some .int), 8, 3, 354, 63),
  (⟨"ThirstLead", "isKind", "(I)Z"⟩, prog_1_method_44_code, 1, (some .boolean), 8, 1, 357, 63),
  (⟨"ThirstLead", "within", "(III)Z"⟩, prog_1_method_42_code, 3, (some .boolean), 8, 3, 360, 63),
  (⟨"ThirstLead", "told", "(II)I"⟩, prog_1_method_3_code, 4, (some .int), 8, 2, 374, 63),
  (⟨"ThirstLead", "held", "(III)I"⟩, prog_1_method_43_code, 3, (some .int), 8, 3, 404, 63),
  (⟨"ThirstLead", "as", "(II)I"⟩, prog_1_method_4_code, 4, (some .int), 8, 2, 435, 63),
  (⟨"ThirstLead", "turns", "(II)I"⟩, prog_1_method_5_code, 5, (some .int), 8, 2, 444, 63),
  (⟨"ThirstLead", "set", "(III)I"⟩, prog_1_method_6_code, 6, (some .int), 8, 3, 448, 63)
]
def mT4 : List MTy := [
  (⟨"ThirstLead", "water", "(II)I"⟩, prog_1_method_7_code, 4, (some .int), 8, 2, 454, 63),
  (⟨"ThirstLead", "rule", "(II)I"⟩, prog_1_method_8_code, 3, (some .int), 8, 2, 458, 63),
  (⟨"ThirstLead", "deal", "(I)I"⟩, prog_1_method_9_code, 4, (some .int), 8, 1, 470, 63),
  (⟨"ThirstLead", "seed", "(I)I"⟩, prog_1_method_10_code, 3, (some .int), 8, 1, 484, 63),
  (⟨"ThirstLead", "hours", "(I)I"⟩, prog_1_method_11_code, 3, (some .int), 8, 1, 488, 63),
  (⟨"ThirstLead", "passHours", "(LThirstLead$Desert;I)V"⟩, prog_1_method_47_code, 4, none, 8, 2, 492, 63),
  (⟨"ThirstLead", "band", "(I)I"⟩, prog_1_method_12_code, 2, (some .int), 8, 1, 538, 63),
  (⟨"ThirstLead", "behind", "(II)I"⟩, prog_1_method_13_code, 3, (some .int), 8, 2, 556, 63),
  (⟨"ThirstLead", "lasts", "()I"⟩, prog_1_method_14_code, 1, (some .int), 8, 0, 577, 63),
  (⟨"ThirstLead", "firstDeath", "(I)I"⟩, prog_1_method_48_code, 3, (some .int), 8, 1, 581, 63),
  (⟨"ThirstLead", "salted", "(II)I"⟩, prog_1_method_15_code, 4, (some .int), 8, 2, 585, 63),
  (⟨"ThirstLead", "tells", "(III)I"⟩, prog_1_method_16_code, 5, (some .int), 8, 3, 601, 63),
  (⟨"ThirstLead", "custom", "(I)I"⟩, prog_1_method_17_code, 4, (some .int), 8, 1, 605, 63),
  (⟨"ThirstLead", "enough", "(I)I"⟩, prog_1_method_18_code, 3, (some .int), 8, 1, 609, 63),
  (⟨"ThirstLead", "shown", "(I)I"⟩, prog_1_method_19_code, 4, (some .int), 8, 1, 617, 63),
  (⟨"ThirstLead", "thirsted", "(III)I"⟩, prog_1_method_20_code, 5, (some .int), 8, 3, 621, 63),
  (⟨"ThirstLead", "isSheet", "(I)Z"⟩, prog_1_method_45_code, 1, (some .boolean), 8, 1, 624, 63),
  (⟨"ThirstLead", "differencesFrom", "(LThirstLead$Sheet;II)I"⟩, prog_1_method_49_code, 6, (some .int), 8, 3, 629, 63),
  (⟨"ThirstLead", "fee", "()I"⟩, prog_1_method_21_code, 2, (some .int), 8, 0, 645, 63),
  (⟨"ThirstLead", "fine", "(I)I"⟩, prog_1_method_22_code, 4, (some .int), 8, 1, 651, 63)
]
def mT5 : List MTy := [
  (⟨"ThirstLead", "feed", "(III)I"⟩, prog_1_method_23_code, 4, (some .int), 8, 3, 655, 63),
  (⟨"ThirstLead", "trim", "(I)I"⟩, prog_1_method_24_code, 2, (some .int), 8, 1, 664, 63),
  (⟨"ThirstLead", "text", "()I"⟩, prog_1_method_25_code, 2, (some .int), 8, 0, 668, 63),
  (⟨"ThirstLead", "textTold", "(II)I"⟩, prog_1_method_26_code, 4, (some .int), 8, 2, 809, 63),
  (⟨"ThirstLead", "why", "(I)I"⟩, prog_1_method_27_code, 2, (some .int), 8, 1, 813, 63),
  (⟨"ThirstLead", "sheet", "(III)I"⟩, prog_1_method_28_code, 5, (some .int), 8, 3, 817, 63),
  (⟨"ThirstLead", "mark", "(III)I"⟩, prog_1_method_29_code, 5, (some .int), 8, 3, 826, 63),
  (⟨"ThirstLead", "pour", "(I)I"⟩, prog_1_method_30_code, 6, (some .int), 8, 1, 834, 63),
  (⟨"ThirstLead", "reads", "(I)I"⟩, prog_1_method_31_code, 4, (some .int), 8, 1, 839, 63),
  (⟨"ThirstLead", "copy", "(IIIII)I"⟩, prog_1_method_32_code, 8, (some .int), 8, 5, 843, 63),
  (⟨"ThirstLead", "lay", "(III)I"⟩, prog_1_method_33_code, 6, (some .int), 8, 3, 852, 63),
  (⟨"ThirstLead", "isSlot", "(I)Z"⟩, prog_1_method_46_code, 1, (some .boolean), 8, 1, 855, 63),
  (⟨"ThirstLead", "ask", "(II)I"⟩, prog_1_method_34_code, 4, (some .int), 8, 2, 865, 63),
  (⟨"ThirstLead", "item", "(II)I"⟩, prog_1_method_35_code, 4, (some .int), 8, 2, 869, 63),
  (⟨"ThirstLead", "rest", "(II)I"⟩, prog_1_method_36_code, 4, (some .int), 8, 2, 873, 63),
  (⟨"ThirstLead", "tell", "(I)I"⟩, prog_1_method_37_code, 2, (some .int), 8, 1, 878, 63),
  (⟨"ThirstLead", "check", "(I)I"⟩, prog_1_method_38_code, 5, (some .int), 8, 1, 882, 63),
  (⟨"ThirstLead", "waitedAt", "(III)Z"⟩, prog_1_method_50_code, 4, (some .boolean), 8, 3, 886, 63),
  (⟨"ThirstLead", "keep", "()I"⟩, prog_1_method_39_code, 1, (some .int), 8, 0, 890, 63),
  (⟨"ThirstLead", "back", "()I"⟩, prog_1_method_40_code, 1, (some .int), 8, 0, 894, 63)
]
def mT6 : List MTy := [
  (⟨"ThirstLead", "count", "(I)I"⟩, prog_1_method_41_code, 2, (some .int), 8, 1, 898, 63),
  (⟨"ThirstLeadModel", "<init>", "()V"⟩, prog_11_method_1_code, 1, none, 9, 0, 903, 72),
  (⟨"ThirstLeadModel", "walker", "(III)I"⟩, prog_11_method_13_code, 4, (some .int), 9, 3, 1013, 72),
  (⟨"ThirstLeadModel", "in", "(III)Z"⟩, prog_11_method_2_code, 3, (some .boolean), 9, 3, 1016, 72),
  (⟨"ThirstLeadModel", "comes", "(III)I"⟩, prog_11_method_12_code, 6, (some .int), 9, 3, 1022, 72),
  (⟨"ThirstLeadModel", "put", "(III)V"⟩, prog_11_method_9_code, 4, none, 9, 3, 1026, 72),
  (⟨"ThirstLeadModel", "told", "(II)I"⟩, prog_11_method_20_code, 3, (some .int), 9, 2, 1030, 72),
  (⟨"ThirstLeadModel", "isWalker", "(I)Z"⟩, prog_11_method_6_code, 2, (some .boolean), 9, 1, 1034, 72),
  (⟨"ThirstLeadModel", "of", "(II)I"⟩, prog_11_method_8_code, 3, (some .int), 9, 2, 1038, 72),
  (⟨"ThirstLeadModel", "thirstsOf", "(I)I"⟩, prog_11_method_14_code, 4, (some .int), 9, 1, 1042, 72),
  (⟨"ThirstLeadModel", "counts", "(I)I"⟩, prog_11_method_71_code, 3, (some .int), 9, 1, 1046, 72),
  (⟨"ThirstLeadModel", "worksOut", "(I)I"⟩, prog_11_method_74_code, 6, (some .int), 9, 1, 1050, 72),
  (⟨"ThirstLeadModel", "two", "(III)I"⟩, prog_11_method_73_code, 3, (some .int), 9, 3, 1053, 72),
  (⟨"ThirstLeadModel", "within", "(III)I"⟩, prog_11_method_3_code, 3, (some .int), 9, 3, 1056, 72),
  (⟨"ThirstLeadModel", "slakesOf", "(I)I"⟩, prog_11_method_15_code, 2, (some .int), 9, 1, 1060, 72),
  (⟨"ThirstLeadModel", "goesOf", "(I)I"⟩, prog_11_method_18_code, 2, (some .int), 9, 1, 1064, 72),
  (⟨"ThirstLeadModel", "toWell", "()I"⟩, prog_11_method_16_code, 3, (some .int), 9, 0, 1068, 72),
  (⟨"ThirstLeadModel", "plainly", "(I)I"⟩, prog_11_method_17_code, 3, (some .int), 9, 1, 1072, 72),
  (⟨"ThirstLeadModel", "worthOf", "(I)I"⟩, prog_11_method_19_code, 3, (some .int), 9, 1, 1076, 72),
  (⟨"ThirstLeadModel", "as", "(II)I"⟩, prog_11_method_22_code, 3, (some .int), 9, 2, 1080, 72)
]
def mT7 : List MTy := [
  (⟨"ThirstLeadModel", "isUnder", "(II)Z"⟩, prog_11_method_21_code, 2, (some .boolean), 9, 2, 1083, 72),
  (⟨"ThirstLeadModel", "turns", "(II)I"⟩, prog_11_method_23_code, 3, (some .int), 9, 2, 1088, 72),
  (⟨"ThirstLeadModel", "becomes", "(II)I"⟩, prog_11_method_11_code, 4, (some .int), 9, 2, 1092, 72),
  (⟨"ThirstLeadModel", "set", "(III)I"⟩, prog_11_method_24_code, 4, (some .int), 9, 3, 1096, 72),
  (⟨"ThirstLeadModel", "water", "(II)I"⟩, prog_11_method_25_code, 3, (some .int), 9, 2, 1100, 72),
  (⟨"ThirstLeadModel", "isCell", "(I)Z"⟩, prog_11_method_7_code, 1, (some .boolean), 9, 1, 1103, 72),
  (⟨"ThirstLeadModel", "rule", "(II)I"⟩, prog_11_method_26_code, 5, (some .int), 9, 2, 1107, 72),
  (⟨"ThirstLeadModel", "deal", "(I)I"⟩, prog_11_method_28_code, 6, (some .int), 9, 1, 1111, 72),
  (⟨"ThirstLeadModel", "draw", "()I"⟩, prog_11_method_27_code, 1, (some .int), 9, 0, 1115, 72),
  (⟨"ThirstLeadModel", "seed", "(I)I"⟩, prog_11_method_29_code, 2, (some .int), 9, 1, 1120, 72),
  (⟨"ThirstLeadModel", "hours", "(I)I"⟩, prog_11_method_38_code, 3, (some .int), 9, 1, 1124, 72),
  (⟨"ThirstLeadModel", "goesOn", "(I)V"⟩, prog_11_method_37_code, 3, none, 9, 1, 1128, 72),
  (⟨"ThirstLeadModel", "hour", "()V"⟩, prog_11_method_36_code, 3, none, 9, 0, 1132, 72),
  (⟨"ThirstLeadModel", "leader", "()I"⟩, prog_11_method_30_code, 3, (some .int), 9, 0, 1136, 72),
  (⟨"ThirstLeadModel", "lives", "(I)Z"⟩, prog_11_method_10_code, 2, (some .boolean), 9, 1, 1140, 72),
  (⟨"ThirstLeadModel", "leads", "(I)V"⟩, prog_11_method_31_code, 3, none, 9, 1, 1144, 72),
  (⟨"ThirstLeadModel", "drinksAt", "(I)V"⟩, prog_11_method_33_code, 4, none, 9, 1, 1148, 72),
  (⟨"ThirstLeadModel", "slaked", "(I)V"⟩, prog_11_method_32_code, 2, none, 9, 1, 1152, 72),
  (⟨"ThirstLeadModel", "thirsts", "(I)V"⟩, prog_11_method_34_code, 4, none, 9, 1, 1156, 72),
  (⟨"ThirstLeadModel", "dies", "()V"⟩, prog_11_method_35_code, 3, none, 9, 0, 1160, 72)
]
def mT8 : List MTy := [
  (⟨"ThirstLeadModel", "band", "(I)I"⟩, prog_11_method_41_code, 4, (some .int), 9, 1, 1164, 72),
  (⟨"ThirstLeadModel", "told0", "(I)I"⟩, prog_11_method_5_code, 1, (some .int), 9, 1, 1167, 72),
  (⟨"ThirstLeadModel", "living", "()I"⟩, prog_11_method_39_code, 3, (some .int), 9, 0, 1172, 72),
  (⟨"ThirstLeadModel", "allThirst", "()I"⟩, prog_11_method_40_code, 3, (some .int), 9, 0, 1176, 72),
  (⟨"ThirstLeadModel", "behind", "(II)I"⟩, prog_11_method_44_code, 4, (some .int), 9, 2, 1180, 72),
  (⟨"ThirstLeadModel", "thinks", "()V"⟩, prog_11_method_42_code, 2, none, 9, 0, 1184, 72),
  (⟨"ThirstLeadModel", "putsBack", "()V"⟩, prog_11_method_43_code, 2, none, 9, 0, 1188, 72),
  (⟨"ThirstLeadModel", "lasts", "()I"⟩, prog_11_method_45_code, 4, (some .int), 9, 0, 1192, 72),
  (⟨"ThirstLeadModel", "salted", "(II)I"⟩, prog_11_method_47_code, 7, (some .int), 9, 2, 1196, 72),
  (⟨"ThirstLeadModel", "deathsBehind", "(I)I"⟩, prog_11_method_46_code, 3, (some .int), 9, 1, 1200, 72),
  (⟨"ThirstLeadModel", "tells", "(III)I"⟩, prog_11_method_48_code, 8, (some .int), 9, 3, 1204, 72),
  (⟨"ThirstLeadModel", "custom", "(I)I"⟩, prog_11_method_49_code, 3, (some .int), 9, 1, 1208, 72),
  (⟨"ThirstLeadModel", "enough", "(I)I"⟩, prog_11_method_50_code, 5, (some .int), 9, 1, 1212, 72),
  (⟨"ThirstLeadModel", "shown", "(I)I"⟩, prog_11_method_51_code, 4, (some .int), 9, 1, 1216, 72),
  (⟨"ThirstLeadModel", "thirsted", "(III)I"⟩, prog_11_method_53_code, 10, (some .int), 9, 3, 1220, 72),
  (⟨"ThirstLeadModel", "isSheet", "(I)Z"⟩, prog_11_method_75_code, 1, (some .boolean), 9, 1, 1223, 72),
  (⟨"ThirstLeadModel", "offBy", "(III)J"⟩, prog_11_method_52_code, 10, (some .long), 9, 3, 1228, 72),
  (⟨"ThirstLeadModel", "fee", "()I"⟩, prog_11_method_54_code, 2, (some .int), 9, 0, 1232, 72),
  (⟨"ThirstLeadModel", "fine", "(I)I"⟩, prog_11_method_55_code, 3, (some .int), 9, 1, 1236, 72),
  (⟨"ThirstLeadModel", "feed", "(III)I"⟩, prog_11_method_56_code, 6, (some .int), 9, 3, 1240, 72)
]
def mT9 : List MTy := [
  (⟨"ThirstLeadModel", "trim", "(I)I"⟩, prog_11_method_57_code, 2, (some .int), 9, 1, 1244, 72),
  (⟨"ThirstLeadModel", "text", "()I"⟩, prog_11_method_69_code, 4, (some .int), 9, 0, 1248, 72),
  (⟨"ThirstLeadModel", "go", "()V"⟩, prog_11_method_60_code, 2, none, 9, 0, 1252, 72),
  (⟨"ThirstLeadModel", "isLetter", "(I)Z"⟩, prog_11_method_58_code, 2, (some .boolean), 9, 1, 1256, 72),
  (⟨"ThirstLeadModel", "isFigure", "(I)Z"⟩, prog_11_method_59_code, 2, (some .boolean), 9, 1, 1260, 72),
  (⟨"ThirstLeadModel", "takesKey", "()Z"⟩, prog_11_method_61_code, 5, (some .boolean), 9, 0, 1264, 72),
  (⟨"ThirstLeadModel", "takesE", "()Z"⟩, prog_11_method_67_code, 5, (some .boolean), 9, 0, 1268, 72),
  (⟨"ThirstLeadModel", "takesPart", "()Z"⟩, prog_11_method_66_code, 2, (some .boolean), 9, 0, 1272, 72),
  (⟨"ThirstLeadModel", "nameOf", "(I)I"⟩, prog_11_method_62_code, 2, (some .int), 9, 1, 1276, 72),
  (⟨"ThirstLeadModel", "settle", "(I)V"⟩, prog_11_method_64_code, 2, none, 9, 1, 1280, 72),
  (⟨"ThirstLeadModel", "rank", "(I)I"⟩, prog_11_method_63_code, 1, (some .int), 9, 1, 1283, 72),
  (⟨"ThirstLeadModel", "notsOpen", "()I"⟩, prog_11_method_68_code, 3, (some .int), 9, 0, 1287, 72),
  (⟨"ThirstLeadModel", "signHere", "()I"⟩, prog_11_method_65_code, 1, (some .int), 9, 0, 1291, 72),
  (⟨"ThirstLeadModel", "textTold", "(II)I"⟩, prog_11_method_70_code, 3, (some .int), 9, 2, 1295, 72),
  (⟨"ThirstLeadModel", "why", "(I)I"⟩, prog_11_method_72_code, 3, (some .int), 9, 1, 1299, 72),
  (⟨"ThirstLeadModel", "sheet", "(III)I"⟩, prog_11_method_77_code, 5, (some .int), 9, 3, 1303, 72),
  (⟨"ThirstLeadModel", "mark", "(III)I"⟩, prog_11_method_78_code, 4, (some .int), 9, 3, 1308, 72),
  (⟨"ThirstLeadModel", "pour", "(I)I"⟩, prog_11_method_79_code, 6, (some .int), 9, 1, 1315, 72),
  (⟨"ThirstLeadModel", "reads", "(I)I"⟩, prog_11_method_80_code, 4, (some .int), 9, 1, 1319, 72),
  (⟨"ThirstLeadModel", "copy", "(IIIII)I"⟩, prog_11_method_81_code, 7, (some .int), 9, 5, 1323, 72)
]
def mT10 : List MTy := [
  (⟨"ThirstLeadModel", "lay", "(III)I"⟩, prog_11_method_82_code, 6, (some .int), 9, 3, 1327, 72),
  (⟨"ThirstLeadModel", "isSlot", "(I)Z"⟩, prog_11_method_76_code, 1, (some .boolean), 9, 1, 1330, 72),
  (⟨"ThirstLeadModel", "ask", "(II)I"⟩, prog_11_method_83_code, 3, (some .int), 9, 2, 1334, 72),
  (⟨"ThirstLeadModel", "item", "(II)I"⟩, prog_11_method_84_code, 4, (some .int), 9, 2, 1338, 72),
  (⟨"ThirstLeadModel", "rest", "(II)I"⟩, prog_11_method_85_code, 3, (some .int), 9, 2, 1342, 72),
  (⟨"ThirstLeadModel", "tell", "(I)I"⟩, prog_11_method_86_code, 2, (some .int), 9, 1, 1347, 72),
  (⟨"ThirstLeadModel", "check", "(I)I"⟩, prog_11_method_87_code, 6, (some .int), 9, 1, 1351, 72),
  (⟨"ThirstLeadModel", "copyAll", "([I[I)V"⟩, prog_11_method_4_code, 3, none, 9, 2, 1354, 72),
  (⟨"ThirstLeadModel", "keep", "()I"⟩, prog_11_method_88_code, 1, (some .int), 9, 0, 1358, 72),
  (⟨"ThirstLeadModel", "back", "()I"⟩, prog_11_method_89_code, 1, (some .int), 9, 0, 1362, 72),
  (⟨"ThirstLeadModel", "count", "(I)I"⟩, prog_11_method_90_code, 2, (some .int), 9, 1, 1366, 72),
  (⟨"java/lang/Math", "min", "(II)I"⟩, prog_12_method_69_code, 2, (some .int), 11, 2, 389, 73),
  (⟨"java/lang/Math", "max", "(II)I"⟩, prog_12_method_65_code, 2, (some .int), 11, 2, 408, 73),
  (⟨"java/lang/Math", "floorMod", "(II)I"⟩, prog_12_method_50_code, 3, (some .int), 11, 2, 423, 73),
  (⟨"java/lang/Math", "abs", "(I)I"⟩, prog_12_method_59_code, 1, (some .int), 11, 1, 641, 73),
  (⟨"java/lang/String", "length", "()I"⟩, prog_13_method_54_code, 1, (some .int), 12, 0, 710, 75),
  (⟨"java/lang/String", "coder", "()B"⟩, prog_13_method_152_code, 1, (some .byte), 12, 0, 714, 75),
  (⟨"java/lang/String", "charAt", "(I)C"⟩, prog_13_method_56_code, 2, (some .char), 12, 1, 720, 75),
  (⟨"java/lang/String", "isLatin1", "()Z"⟩, prog_13_method_154_code, 1, (some .boolean), 12, 0, 724, 75),
  (⟨"java/lang/String", "checkIndex", "(II)V"⟩, prog_13_method_155_code, 2, none, 12, 2, 730, 75)
]
def mT11 : List MTy := [
  (⟨"java/lang/StringLatin1", "charAt", "([BI)C"⟩, prog_14_method_2_code, 2, (some .char), 13, 2, 727, 76),
  (⟨"java/lang/StringUTF16", "charAt", "([BI)C"⟩, prog_15_method_83_code, 2, (some .char), 14, 2, 738, 78),
  (⟨"java/lang/StringUTF16", "checkIndex", "(I[B)V"⟩, prog_15_method_91_code, 2, none, 14, 2, 741, 78),
  (⟨"java/lang/StringUTF16", "length", "([B)I"⟩, prog_15_method_6_code, 1, (some .int), 14, 1, 744, 78),
  (⟨"java/lang/StringUTF16", "getChar", "([BI)C"⟩, prog_15_method_5_code, 2, (some .char), 14, 2, 748, 78),
  (⟨"jdk/internal/util/Preconditions", "checkIndex", "(IILjava/util/function/BiFunction;)I"⟩, prog_17_method_11_code, 3, (some .int), 15, 3, 735, 77)
]
def mTs : List MTy := mT0 ++ (mT1 ++ (mT2 ++ (mT3 ++ (mT4 ++ (mT5 ++ (mT6 ++ (mT7 ++ (mT8 ++ (mT9 ++ (mT10 ++ (mT11)))))))))))
def mT : List MTy := mTs ++ [(⟨"ThirstLeadLaw", "law", "([I)Z"⟩, code, 4, (some .boolean), 10, 1, 0, 62)]
set_option maxRecDepth 100000 in
theorem mw0 : ∀ t ∈ mT0, lwa t.2.2.2.2.2.2.1 = some (.code t.1 t.2.1 t.2.2.1 t.2.2.2.1) := List.forall_mem_cons.mpr ⟨rfl, List.forall_mem_cons.mpr ⟨rfl, List.forall_mem_cons.mpr ⟨rfl, List.forall_mem_cons.mpr ⟨rfl, List.forall_mem_cons.mpr ⟨rfl, List.forall_mem_cons.mpr ⟨rfl, List.forall_mem_cons.mpr ⟨rfl, List.forall_mem_cons.mpr ⟨rfl, List.forall_mem_cons.mpr ⟨rfl, List.forall_mem_cons.mpr ⟨rfl, List.forall_mem_cons.mpr ⟨rfl, List.forall_mem_cons.mpr ⟨rfl, List.forall_mem_cons.mpr ⟨rfl, List.forall_mem_cons.mpr ⟨rfl, List.forall_mem_cons.mpr ⟨rfl, List.forall_mem_cons.mpr ⟨rfl, List.forall_mem_cons.mpr ⟨rfl, List.forall_mem_cons.mpr ⟨rfl, List.forall_mem_cons.mpr ⟨rfl, List.forall_mem_cons.mpr ⟨rfl, fun _ h => absurd h List.not_mem_nil⟩⟩⟩⟩⟩⟩⟩⟩⟩⟩⟩⟩⟩⟩⟩⟩⟩⟩⟩⟩
set_option maxRecDepth 100000 in
theorem mw1 : ∀ t ∈ mT1, lwa t.2.2.2.2.2.2.1 = some (.code t.1 t.2.1 t.2.2.1 t.2.2.2.1) := List.forall_mem_cons.mpr ⟨rfl, List.forall_mem_cons.mpr ⟨rfl, List.forall_mem_cons.mpr ⟨rfl, List.forall_mem_cons.mpr ⟨rfl, List.forall_mem_cons.mpr ⟨rfl, List.forall_mem_cons.mpr ⟨rfl, List.forall_mem_cons.mpr ⟨rfl, List.forall_mem_cons.mpr ⟨rfl, List.forall_mem_cons.mpr ⟨rfl, List.forall_mem_cons.mpr ⟨rfl, List.forall_mem_cons.mpr ⟨rfl, List.forall_mem_cons.mpr ⟨rfl, List.forall_mem_cons.mpr ⟨rfl, List.forall_mem_cons.mpr ⟨rfl, List.forall_mem_cons.mpr ⟨rfl, List.forall_mem_cons.mpr ⟨rfl, List.forall_mem_cons.mpr ⟨rfl, List.forall_mem_cons.mpr ⟨rfl, List.forall_mem_cons.mpr ⟨rfl, List.forall_mem_cons.mpr ⟨rfl, fun _ h => absurd h List.not_mem_nil⟩⟩⟩⟩⟩⟩⟩⟩⟩⟩⟩⟩⟩⟩⟩⟩⟩⟩⟩⟩
set_option maxRecDepth 100000 in
theorem mw2 : ∀ t ∈ mT2, lwa t.2.2.2.2.2.2.1 = some (.code t.1 t.2.1 t.2.2.1 t.2.2.2.1) := List.forall_mem_cons.mpr ⟨rfl, List.forall_mem_cons.mpr ⟨rfl, List.forall_mem_cons.mpr ⟨rfl, List.forall_mem_cons.mpr ⟨rfl, List.forall_mem_cons.mpr ⟨rfl, List.forall_mem_cons.mpr ⟨rfl, List.forall_mem_cons.mpr ⟨rfl, List.forall_mem_cons.mpr ⟨rfl, List.forall_mem_cons.mpr ⟨rfl, List.forall_mem_cons.mpr ⟨rfl, List.forall_mem_cons.mpr ⟨rfl, List.forall_mem_cons.mpr ⟨rfl, List.forall_mem_cons.mpr ⟨rfl, List.forall_mem_cons.mpr ⟨rfl, List.forall_mem_cons.mpr ⟨rfl, List.forall_mem_cons.mpr ⟨rfl, List.forall_mem_cons.mpr ⟨rfl, List.forall_mem_cons.mpr ⟨rfl, List.forall_mem_cons.mpr ⟨rfl, List.forall_mem_cons.mpr ⟨rfl, fun _ h => absurd h List.not_mem_nil⟩⟩⟩⟩⟩⟩⟩⟩⟩⟩⟩⟩⟩⟩⟩⟩⟩⟩⟩⟩
set_option maxRecDepth 100000 in
theorem mw3 : ∀ t ∈ mT3, lwa t.2.2.2.2.2.2.1 = some (.code t.1 t.2.1 t.2.2.1 t.2.2.2.1) := List.forall_mem_cons.mpr ⟨rfl, List.forall_mem_cons.mpr ⟨rfl, List.forall_mem_cons.mpr ⟨rfl, List.forall_mem_cons.mpr ⟨rfl, List.forall_mem_cons.mpr ⟨rfl, List.forall_mem_cons.mpr ⟨rfl, List.forall_mem_cons.mpr ⟨rfl, List.forall_mem_cons.mpr ⟨rfl, List.forall_mem_cons.mpr ⟨rfl, List.forall_mem_cons.mpr ⟨rfl, List.forall_mem_cons.mpr ⟨rfl, List.forall_mem_cons.mpr ⟨rfl, List.forall_mem_cons.mpr ⟨rfl, List.forall_mem_cons.mpr ⟨rfl, List.forall_mem_cons.mpr ⟨rfl, List.forall_mem_cons.mpr ⟨rfl, List.forall_mem_cons.mpr ⟨rfl, List.forall_mem_cons.mpr ⟨rfl, List.forall_mem_cons.mpr ⟨rfl, List.forall_mem_cons.mpr ⟨rfl, fun _ h => absurd h List.not_mem_nil⟩⟩⟩⟩⟩⟩⟩⟩⟩⟩⟩⟩⟩⟩⟩⟩⟩⟩⟩⟩
set_option maxRecDepth 100000 in
theorem mw4 : ∀ t ∈ mT4, lwa t.2.2.2.2.2.2.1 = some (.code t.1 t.2.1 t.2.2.1 t.2.2.2.1) := List.forall_mem_cons.mpr ⟨rfl, List.forall_mem_cons.mpr ⟨rfl, List.forall_mem_cons.mpr ⟨rfl, List.forall_mem_cons.mpr ⟨rfl, List.forall_mem_cons.mpr ⟨rfl, List.forall_mem_cons.mpr ⟨rfl, List.forall_mem_cons.mpr ⟨rfl, List.forall_mem_cons.mpr ⟨rfl, List.forall_mem_cons.mpr ⟨rfl, List.forall_mem_cons.mpr ⟨rfl, List.forall_mem_cons.mpr ⟨rfl, List.forall_mem_cons.mpr ⟨rfl, List.forall_mem_cons.mpr ⟨rfl, List.forall_mem_cons.mpr ⟨rfl, List.forall_mem_cons.mpr ⟨rfl, List.forall_mem_cons.mpr ⟨rfl, List.forall_mem_cons.mpr ⟨rfl, List.forall_mem_cons.mpr ⟨rfl, List.forall_mem_cons.mpr ⟨rfl, List.forall_mem_cons.mpr ⟨rfl, fun _ h => absurd h List.not_mem_nil⟩⟩⟩⟩⟩⟩⟩⟩⟩⟩⟩⟩⟩⟩⟩⟩⟩⟩⟩⟩
set_option maxRecDepth 100000 in
theorem mw5 : ∀ t ∈ mT5, lwa t.2.2.2.2.2.2.1 = some (.code t.1 t.2.1 t.2.2.1 t.2.2.2.1) := List.forall_mem_cons.mpr ⟨rfl, List.forall_mem_cons.mpr ⟨rfl, List.forall_mem_cons.mpr ⟨rfl, List.forall_mem_cons.mpr ⟨rfl, List.forall_mem_cons.mpr ⟨rfl, List.forall_mem_cons.mpr ⟨rfl, List.forall_mem_cons.mpr ⟨rfl, List.forall_mem_cons.mpr ⟨rfl, List.forall_mem_cons.mpr ⟨rfl, List.forall_mem_cons.mpr ⟨rfl, List.forall_mem_cons.mpr ⟨rfl, List.forall_mem_cons.mpr ⟨rfl, List.forall_mem_cons.mpr ⟨rfl, List.forall_mem_cons.mpr ⟨rfl, List.forall_mem_cons.mpr ⟨rfl, List.forall_mem_cons.mpr ⟨rfl, List.forall_mem_cons.mpr ⟨rfl, List.forall_mem_cons.mpr ⟨rfl, List.forall_mem_cons.mpr ⟨rfl, List.forall_mem_cons.mpr ⟨rfl, fun _ h => absurd h List.not_mem_nil⟩⟩⟩⟩⟩⟩⟩⟩⟩⟩⟩⟩⟩⟩⟩⟩⟩⟩⟩⟩
set_option maxRecDepth 100000 in
theorem mw6 : ∀ t ∈ mT6, lwa t.2.2.2.2.2.2.1 = some (.code t.1 t.2.1 t.2.2.1 t.2.2.2.1) := List.forall_mem_cons.mpr ⟨rfl, List.forall_mem_cons.mpr ⟨rfl, List.forall_mem_cons.mpr ⟨rfl, List.forall_mem_cons.mpr ⟨rfl, List.forall_mem_cons.mpr ⟨rfl, List.forall_mem_cons.mpr ⟨rfl, List.forall_mem_cons.mpr ⟨rfl, List.forall_mem_cons.mpr ⟨rfl, List.forall_mem_cons.mpr ⟨rfl, List.forall_mem_cons.mpr ⟨rfl, List.forall_mem_cons.mpr ⟨rfl, List.forall_mem_cons.mpr ⟨rfl, List.forall_mem_cons.mpr ⟨rfl, List.forall_mem_cons.mpr ⟨rfl, List.forall_mem_cons.mpr ⟨rfl, List.forall_mem_cons.mpr ⟨rfl, List.forall_mem_cons.mpr ⟨rfl, List.forall_mem_cons.mpr ⟨rfl, List.forall_mem_cons.mpr ⟨rfl, List.forall_mem_cons.mpr ⟨rfl, fun _ h => absurd h List.not_mem_nil⟩⟩⟩⟩⟩⟩⟩⟩⟩⟩⟩⟩⟩⟩⟩⟩⟩⟩⟩⟩
set_option maxRecDepth 100000 in
theorem mw7 : ∀ t ∈ mT7, lwa t.2.2.2.2.2.2.1 = some (.code t.1 t.2.1 t.2.2.1 t.2.2.2.1) := List.forall_mem_cons.mpr ⟨rfl, List.forall_mem_cons.mpr ⟨rfl, List.forall_mem_cons.mpr ⟨rfl, List.forall_mem_cons.mpr ⟨rfl, List.forall_mem_cons.mpr ⟨rfl, List.forall_mem_cons.mpr ⟨rfl, List.forall_mem_cons.mpr ⟨rfl, List.forall_mem_cons.mpr ⟨rfl, List.forall_mem_cons.mpr ⟨rfl, List.forall_mem_cons.mpr ⟨rfl, List.forall_mem_cons.mpr ⟨rfl, List.forall_mem_cons.mpr ⟨rfl, List.forall_mem_cons.mpr ⟨rfl, List.forall_mem_cons.mpr ⟨rfl, List.forall_mem_cons.mpr ⟨rfl, List.forall_mem_cons.mpr ⟨rfl, List.forall_mem_cons.mpr ⟨rfl, List.forall_mem_cons.mpr ⟨rfl, List.forall_mem_cons.mpr ⟨rfl, List.forall_mem_cons.mpr ⟨rfl, fun _ h => absurd h List.not_mem_nil⟩⟩⟩⟩⟩⟩⟩⟩⟩⟩⟩⟩⟩⟩⟩⟩⟩⟩⟩⟩
set_option maxRecDepth 100000 in
theorem mw8 : ∀ t ∈ mT8, lwa t.2.2.2.2.2.2.1 = some (.code t.1 t.2.1 t.2.2.1 t.2.2.2.1) := List.forall_mem_cons.mpr ⟨rfl, List.forall_mem_cons.mpr ⟨rfl, List.forall_mem_cons.mpr ⟨rfl, List.forall_mem_cons.mpr ⟨rfl, List.forall_mem_cons.mpr ⟨rfl, List.forall_mem_cons.mpr ⟨rfl, List.forall_mem_cons.mpr ⟨rfl, List.forall_mem_cons.mpr ⟨rfl, List.forall_mem_cons.mpr ⟨rfl, List.forall_mem_cons.mpr ⟨rfl, List.forall_mem_cons.mpr ⟨rfl, List.forall_mem_cons.mpr ⟨rfl, List.forall_mem_cons.mpr ⟨rfl, List.forall_mem_cons.mpr ⟨rfl, List.forall_mem_cons.mpr ⟨rfl, List.forall_mem_cons.mpr ⟨rfl, List.forall_mem_cons.mpr ⟨rfl, List.forall_mem_cons.mpr ⟨rfl, List.forall_mem_cons.mpr ⟨rfl, List.forall_mem_cons.mpr ⟨rfl, fun _ h => absurd h List.not_mem_nil⟩⟩⟩⟩⟩⟩⟩⟩⟩⟩⟩⟩⟩⟩⟩⟩⟩⟩⟩⟩
set_option maxRecDepth 100000 in
theorem mw9 : ∀ t ∈ mT9, lwa t.2.2.2.2.2.2.1 = some (.code t.1 t.2.1 t.2.2.1 t.2.2.2.1) := List.forall_mem_cons.mpr ⟨rfl, List.forall_mem_cons.mpr ⟨rfl, List.forall_mem_cons.mpr ⟨rfl, List.forall_mem_cons.mpr ⟨rfl, List.forall_mem_cons.mpr ⟨rfl, List.forall_mem_cons.mpr ⟨rfl, List.forall_mem_cons.mpr ⟨rfl, List.forall_mem_cons.mpr ⟨rfl, List.forall_mem_cons.mpr ⟨rfl, List.forall_mem_cons.mpr ⟨rfl, List.forall_mem_cons.mpr ⟨rfl, List.forall_mem_cons.mpr ⟨rfl, List.forall_mem_cons.mpr ⟨rfl, List.forall_mem_cons.mpr ⟨rfl, List.forall_mem_cons.mpr ⟨rfl, List.forall_mem_cons.mpr ⟨rfl, List.forall_mem_cons.mpr ⟨rfl, List.forall_mem_cons.mpr ⟨rfl, List.forall_mem_cons.mpr ⟨rfl, List.forall_mem_cons.mpr ⟨rfl, fun _ h => absurd h List.not_mem_nil⟩⟩⟩⟩⟩⟩⟩⟩⟩⟩⟩⟩⟩⟩⟩⟩⟩⟩⟩⟩
set_option maxRecDepth 100000 in
theorem mw10 : ∀ t ∈ mT10, lwa t.2.2.2.2.2.2.1 = some (.code t.1 t.2.1 t.2.2.1 t.2.2.2.1) := List.forall_mem_cons.mpr ⟨rfl, List.forall_mem_cons.mpr ⟨rfl, List.forall_mem_cons.mpr ⟨rfl, List.forall_mem_cons.mpr ⟨rfl, List.forall_mem_cons.mpr ⟨rfl, List.forall_mem_cons.mpr ⟨rfl, List.forall_mem_cons.mpr ⟨rfl, List.forall_mem_cons.mpr ⟨rfl, List.forall_mem_cons.mpr ⟨rfl, List.forall_mem_cons.mpr ⟨rfl, List.forall_mem_cons.mpr ⟨rfl, List.forall_mem_cons.mpr ⟨rfl, List.forall_mem_cons.mpr ⟨rfl, List.forall_mem_cons.mpr ⟨rfl, List.forall_mem_cons.mpr ⟨rfl, List.forall_mem_cons.mpr ⟨rfl, List.forall_mem_cons.mpr ⟨rfl, List.forall_mem_cons.mpr ⟨rfl, List.forall_mem_cons.mpr ⟨rfl, List.forall_mem_cons.mpr ⟨rfl, fun _ h => absurd h List.not_mem_nil⟩⟩⟩⟩⟩⟩⟩⟩⟩⟩⟩⟩⟩⟩⟩⟩⟩⟩⟩⟩
set_option maxRecDepth 100000 in
theorem mw11 : ∀ t ∈ mT11, lwa t.2.2.2.2.2.2.1 = some (.code t.1 t.2.1 t.2.2.1 t.2.2.2.1) := List.forall_mem_cons.mpr ⟨rfl, List.forall_mem_cons.mpr ⟨rfl, List.forall_mem_cons.mpr ⟨rfl, List.forall_mem_cons.mpr ⟨rfl, List.forall_mem_cons.mpr ⟨rfl, List.forall_mem_cons.mpr ⟨rfl, fun _ h => absurd h List.not_mem_nil⟩⟩⟩⟩⟩⟩
theorem mw : ∀ t ∈ mTs, lwa t.2.2.2.2.2.2.1 = some (.code t.1 t.2.1 t.2.2.1 t.2.2.2.1) := by
  show ∀ t ∈ mT0 ++ (mT1 ++ (mT2 ++ (mT3 ++ (mT4 ++ (mT5 ++ (mT6 ++ (mT7 ++ (mT8 ++ (mT9 ++ (mT10 ++ (mT11))))))))))), lwa t.2.2.2.2.2.2.1 = some (.code t.1 t.2.1 t.2.2.1 t.2.2.2.1)
  exact List.forall_mem_append.mpr ⟨mw0, List.forall_mem_append.mpr ⟨mw1, List.forall_mem_append.mpr ⟨mw2, List.forall_mem_append.mpr ⟨mw3, List.forall_mem_append.mpr ⟨mw4, List.forall_mem_append.mpr ⟨mw5, List.forall_mem_append.mpr ⟨mw6, List.forall_mem_append.mpr ⟨mw7, List.forall_mem_append.mpr ⟨mw8, List.forall_mem_append.mpr ⟨mw9, List.forall_mem_append.mpr ⟨mw10, mw11⟩⟩⟩⟩⟩⟩⟩⟩⟩⟩⟩
def kLaw : Nat := 226
def tF : List (Nat × Nat × Nat × Nat × Nat) := [(7, 9, 7, 0, 100), (8, 89, 7, 0, 101), (1, 109, 7, 0, 102), (7, 15, 7, 1, 103), (8, 94, 7, 1, 104), (1, 70, 7, 1, 105), (7, 18, 7, 2, 106), (8, 97, 7, 2, 107), (1, 92, 7, 2, 108), (7, 21, 7, 3, 109), (8, 100, 7, 3, 110), (1, 112, 7, 3, 111), (7, 24, 7, 4, 112), (8, 103, 7, 4, 113), (1, 143, 7, 4, 114), (7, 27, 7, 5, 115), (8, 106, 7, 5, 116), (1, 88, 7, 5, 117), (1, 9, 1, 0, 132), (8, 131, 1, 0, 133), (1, 17, 1, 1, 134), (8, 85, 1, 1, 135), (1, 21, 1, 2, 136), (8, 144, 1, 2, 137), (1, 25, 1, 3, 138), (8, 168, 1, 3, 139), (1, 28, 1, 4, 140), (8, 322, 1, 4, 141), (1, 31, 1, 5, 142), (8, 325, 1, 5, 143), (1, 34, 1, 6, 144), (8, 328, 1, 6, 145), (1, 37, 1, 7, 146), (8, 331, 1, 7, 147), (1, 40, 1, 8, 148), (8, 158, 1, 8, 149), (1, 43, 1, 9, 150), (8, 175, 1, 9, 151), (1, 46, 1, 10, 152), (8, 161, 1, 10, 153), (1, 49, 1, 11, 154), (8, 155, 1, 11, 155), (1, 52, 1, 12, 156), (8, 227, 1, 12, 157), (0, 10, 0, 0, 192), (0, 16, 0, 1, 193), (2, 9, 2, 0, 212), (3, 36, 2, 0, 213), (2, 15, 2, 1, 214), (3, 33, 2, 1, 215), (2, 19, 2, 2, 216), (3, 28, 2, 2, 217), (4, 67, 2, 2, 218), (8, 263, 2, 2, 219), (2, 22, 2, 3, 220), (8, 266, 2, 3, 221), (3, 11, 3, 0, 231), (8, 251, 3, 0, 232), (3, 17, 3, 1, 233), (4, 12, 4, 0, 247), (8, 254, 4, 0, 248), (4, 18, 4, 1, 249), (8, 237, 4, 1, 250), (4, 22, 4, 2, 251), (8, 248, 4, 2, 252), (4, 25, 4, 3, 253), (4, 29, 4, 4, 254), (4, 32, 4, 5, 255), (5, 9, 5, 0, 278), (8, 274, 5, 0, 279), (5, 15, 5, 1, 280), (8, 219, 5, 1, 281), (5, 19, 5, 2, 282), (8, 337, 5, 2, 283), (6, 12, 6, 0, 300), (8, 301, 6, 0, 301), (6, 21, 6, 1, 302), (8, 308, 6, 1, 303), (6, 25, 6, 2, 304), (8, 298, 6, 2, 305), (6, 29, 6, 3, 306), (8, 315, 6, 3, 307), (8, 12, 8, 0, 317), (8, 16, 8, 1, 318), (8, 19, 8, 2, 319), (8, 25, 8, 3, 320), (8, 32, 8, 4, 321), (8, 39, 8, 5, 322), (8, 45, 8, 6, 323), (8, 51, 8, 7, 324), (8, 55, 8, 8, 325), (8, 59, 8, 9, 326), (8, 63, 8, 10, 327), (9, 9, 9, 0, 905), (9, 13, 9, 1, 906), (9, 16, 9, 2, 907), (9, 279, 9, 3, 908), (9, 152, 9, 4, 909), (9, 19, 9, 5, 910), (9, 22, 9, 6, 911), (9, 200, 9, 7, 912), (9, 204, 9, 8, 913), (9, 207, 9, 9, 914), (9, 213, 9, 10, 915), (9, 219, 9, 11, 916), (9, 210, 9, 12, 917), (9, 225, 9, 13, 918), (9, 25, 9, 14, 919), (9, 29, 9, 15, 920), (9, 32, 9, 16, 921), (9, 237, 9, 17, 922), (9, 243, 9, 18, 923), (9, 35, 9, 19, 924), (9, 231, 9, 20, 925), (9, 38, 9, 21, 926), (9, 42, 9, 22, 927), (9, 45, 9, 23, 928), (9, 48, 9, 24, 929), (9, 51, 9, 25, 930), (9, 54, 9, 26, 931), (9, 57, 9, 27, 932), (9, 60, 9, 28, 933), (9, 63, 9, 29, 934), (9, 66, 9, 30, 935), (9, 69, 9, 31, 936), (9, 72, 9, 32, 937), (9, 276, 9, 33, 938)]
def tC : List (Nat × Nat × Nat × Nat × Nat × Nat) := [(10, 7, 8, 79, 80, 63), (8, 9, 1, 87, 88, 64), (1, 15, 7, 93, 95, 65), (8, 22, 0, 185, 186, 66), (8, 29, 3, 199, 200, 67), (3, 9, 2, 205, 207, 68), (8, 36, 4, 239, 240, 69), (4, 9, 2, 245, 207, 68), (8, 43, 5, 269, 273, 70), (8, 49, 6, 271, 291, 71), (6, 9, 7, 296, 95, 65), (6, 18, 5, 298, 273, 70), (10, 10, 9, 899, 900, 72)]
def tK : List (Nat × Nat × Int32 × Nat) := [(0, 9, -1000000005, 191), (8, 77, -1000000001, 361), (1, 74, -1000000003, 366), (3, 32, -1000000005, 390), (1, 101, -1000000005, 391), (8, 127, -1000000012, 440), (1, 87, 1103515245, 479), (8, 174, -1000000005, 540), (1, 73, -1000000001, 573), (8, 222, -1000000011, 625), (5, 32, -1000000005, 638), (8, 240, -1000000003, 656), (8, 269, -1000000014, 818), (8, 273, -1000000013, 828), (8, 277, -99999, 829), (8, 278, 99999, 830), (8, 318, -1000000002, 874), (9, 88, -1000000001, 1017), (9, 89, -1000000003, 1018), (9, 131, -1000000012, 1084), (9, 138, 1103515245, 1116), (9, 75, -1000000005, 1168), (9, 195, -1000000011, 1224), (9, 268, -1000000014, 1304), (9, 269, -1000000013, 1309), (9, 270, -99999, 1310), (9, 271, 99999, 1311), (9, 275, -1000000002, 1343)]
def tM : List (Nat × Nat × Nat × Nat × Nat × Nat × Nat) := [(10, 9, 3, 71, 81, 82, 0), (8, 3, 5, 0, 84, 85, 0), (8, 11, 3, 4, 89, 90, 0), (1, 3, 5, 0, 92, 85, 0), (1, 55, 4, 62, 96, 97, 0), (7, 3, 5, 0, 99, 85, 0), (8, 24, 4, 0, 187, 188, 0), (0, 3, 5, 0, 190, 85, 0), (8, 31, 3, 32, 201, 202, 0), (3, 3, 5, 0, 204, 85, 0), (3, 21, 4, 26, 208, 209, 0), (2, 3, 5, 0, 211, 85, 0), (8, 38, 4, 37, 241, 242, 0), (4, 3, 5, 0, 244, 85, 0), (4, 11, 4, 26, 246, 209, 0), (8, 67, 4, 55, 274, 275, 0), (5, 3, 5, 0, 277, 85, 0), (8, 68, 4, 61, 292, 293, 0), (6, 3, 5, 0, 295, 85, 0), (6, 11, 4, 62, 297, 97, 0), (6, 20, 4, 55, 299, 275, 0), (10, 13, 0, 72, 351, 352, 353), (8, 69, 1, 73, 355, 356, 0), (8, 73, 1, 74, 358, 359, 0), (8, 78, 0, 5, 362, 363, 364), (1, 75, 0, 63, 367, 368, 369), (10, 18, 0, 75, 371, 372, 373), (8, 82, 0, 6, 375, 376, 377), (8, 109, 0, 7, 379, 380, 381), (1, 95, 0, 33, 383, 384, 385), (3, 22, 1, 211, 387, 388, 0), (1, 102, 0, 34, 392, 393, 394), (3, 39, 1, 35, 396, 397, 0), (3, 43, 1, 36, 399, 400, 0), (1, 106, 2, 76, 402, 403, 0), (8, 147, 1, 211, 405, 388, 0), (8, 334, 1, 212, 406, 407, 0), (8, 113, 0, 64, 409, 410, 411), (8, 117, 0, 8, 413, 414, 415), (1, 115, 0, 9, 417, 419, 0), (1, 122, 1, 213, 421, 422, 0), (1, 118, 0, 10, 424, 426, 1), (8, 121, 0, 65, 428, 429, 430), (10, 23, 0, 77, 432, 433, 434), (8, 124, 0, 66, 436, 437, 438), (10, 27, 0, 78, 441, 442, 443), (10, 31, 0, 79, 445, 446, 447), (10, 35, 0, 80, 451, 452, 453), (10, 39, 0, 81, 455, 456, 457), (8, 140, 0, 11, 463, 464, 465), (10, 43, 0, 82, 467, 468, 469), (8, 152, 0, 12, 471, 472, 473), (1, 79, 0, 13, 475, 476, 477), (1, 83, 0, 5, 480, 363, 364), (10, 48, 0, 83, 481, 482, 483), (10, 52, 0, 84, 485, 486, 487), (8, 164, 0, 85, 489, 491, 2), (8, 208, 0, 14, 493, 494, 495), (1, 127, 0, 15, 497, 498, 499), (1, 130, 0, 16, 501, 503, 3), (1, 146, 0, 8, 505, 414, 415), (1, 133, 0, 17, 506, 508, 4), (1, 150, 0, 67, 510, 511, 512), (7, 41, 0, 68, 514, 515, 516), (7, 31, 0, 64, 518, 410, 411), (7, 35, 1, 212, 519, 407, 0), (7, 44, 1, 211, 520, 388, 0), (1, 136, 0, 18, 521, 523, 5), (1, 153, 0, 7, 525, 380, 381), (1, 157, 0, 69, 526, 527, 528), (1, 140, 0, 19, 530, 532, 6), (1, 161, 1, 211, 534, 388, 0), (10, 56, 0, 86, 535, 536, 537), (8, 171, 0, 15, 539, 498, 499), (8, 178, 0, 20, 541, 542, 543), (8, 181, 0, 21, 545, 546, 547), (8, 184, 0, 22, 549, 550, 551), (10, 60, 0, 87, 553, 554, 555), (8, 187, 0, 23, 557, 558, 559), (1, 56, 6, 0, 561, 562, 563), (1, 62, 0, 70, 564, 565, 566), (8, 191, 0, 24, 568, 569, 570), (1, 66, 0, 6, 572, 376, 377), (10, 64, 0, 88, 574, 575, 576), (8, 195, 0, 89, 578, 580, 7), (10, 69, 0, 90, 582, 583, 584), (8, 198, 0, 1, 586, 587, 588), (8, 201, 0, 2, 590, 591, 592), (8, 205, 0, 3, 594, 595, 596), (10, 73, 0, 91, 598, 599, 600), (10, 77, 0, 92, 602, 603, 604), (10, 81, 0, 93, 606, 607, 608), (8, 212, 0, 25, 610, 611, 612), (10, 85, 0, 94, 614, 615, 616), (10, 89, 0, 95, 618, 619, 620), (8, 216, 1, 96, 622, 623, 0), (8, 223, 0, 97, 626, 628, 8), (8, 279, 0, 56, 630, 631, 632), (5, 28, 0, 57, 634, 635, 636), (8, 338, 1, 214, 639, 640, 0), (10, 93, 0, 98, 642, 643, 644), (8, 230, 0, 33, 646, 384, 385), (8, 233, 0, 34, 647, 393, 394), (10, 97, 0, 99, 648, 649, 650), (10, 101, 0, 100, 652, 653, 654), (8, 241, 0, 38, 657, 658, 659), (10, 105, 0, 101, 661, 662, 663), (10, 109, 0, 102, 665, 666, 667), (8, 244, 0, 39, 669, 670, 671), (4, 35, 0, 27, 673, 674, 675), (4, 38, 0, 40, 677, 679, 9), (4, 49, 0, 41, 681, 683, 10), (4, 52, 0, 42, 685, 687, 11), (4, 56, 0, 43, 689, 691, 12), (4, 41, 0, 44, 693, 695, 13), (4, 59, 1, 45, 697, 698, 0), (4, 63, 0, 46, 703, 705, 14), (4, 82, 0, 215, 707, 708, 709), (12, 335, 0, 216, 711, 712, 713), (4, 87, 0, 217, 717, 718, 719), (12, 492, 0, 218, 721, 722, 723), (12, 495, 1, 220, 725, 726, 0), (13, 9, 1, 219, 728, 729, 0), (12, 1059, 1, 225, 733, 734, 0), (12, 498, 1, 221, 736, 737, 0), (14, 67, 1, 222, 739, 740, 0), (14, 48, 1, 223, 742, 743, 0), (14, 414, 1, 219, 745, 729, 0), (14, 71, 1, 224, 746, 747, 0), (4, 45, 0, 47, 755, 757, 15), (4, 91, 0, 48, 759, 761, 16), (4, 102, 0, 49, 763, 765, 17), (4, 114, 0, 28, 767, 768, 769), (2, 31, 0, 29, 771, 773, 18), (4, 105, 0, 50, 775, 777, 19), (4, 117, 1, 51, 779, 780, 0), (4, 108, 0, 52, 785, 787, 20), (4, 98, 0, 30, 789, 790, 791), (4, 111, 0, 53, 793, 795, 21), (4, 95, 1, 54, 797, 798, 0), (8, 258, 0, 31, 800, 801, 802), (2, 25, 6, 0, 804, 562, 563), (10, 113, 0, 103, 806, 807, 808), (10, 117, 0, 104, 810, 811, 812), (10, 121, 0, 105, 814, 815, 816), (8, 270, 0, 58, 819, 820, 821), (10, 125, 0, 106, 823, 824, 825), (8, 272, 0, 57, 827, 635, 636), (10, 129, 0, 107, 831, 832, 833), (8, 282, 1, 76, 835, 403, 0), (10, 133, 0, 108, 836, 837, 838), (10, 137, 0, 109, 840, 841, 842), (8, 285, 0, 59, 844, 845, 846), (8, 289, 6, 0, 848, 562, 563), (10, 142, 0, 110, 849, 850, 851), (8, 295, 1, 111, 853, 854, 0), (8, 305, 0, 70, 856, 565, 566), (8, 312, 0, 60, 857, 858, 859), (5, 22, 6, 0, 861, 562, 563), (10, 146, 0, 112, 862, 863, 864), (10, 150, 0, 113, 866, 867, 868), (10, 154, 0, 114, 870, 871, 872), (10, 158, 0, 115, 875, 876, 877), (10, 162, 0, 116, 879, 880, 881), (8, 319, 0, 117, 883, 885, 22), (10, 166, 0, 118, 887, 888, 889), (10, 170, 0, 119, 891, 892, 893), (10, 174, 0, 120, 895, 896, 897), (10, 12, 3, 121, 901, 902, 0), (9, 1, 5, 0, 904, 85, 0), (10, 17, 0, 122, 1010, 1011, 1012), (9, 76, 1, 123, 1014, 1015, 0), (9, 90, 0, 124, 1019, 1021, 23), (9, 84, 0, 125, 1023, 1025, 24), (10, 22, 0, 126, 1027, 1028, 1029), (9, 111, 0, 127, 1031, 1033, 25), (9, 80, 0, 128, 1035, 1037, 26), (9, 115, 0, 129, 1039, 1041, 27), (9, 94, 0, 130, 1043, 1045, 28), (9, 98, 0, 131, 1047, 1049, 29), (9, 265, 1, 132, 1051, 1052, 0), (9, 101, 1, 133, 1054, 1055, 0), (9, 118, 0, 134, 1057, 1059, 30), (9, 121, 0, 135, 1061, 1063, 31), (9, 104, 0, 136, 1065, 1067, 32), (9, 108, 0, 137, 1069, 1071, 33), (9, 124, 0, 138, 1073, 1075, 34), (10, 26, 0, 139, 1077, 1078, 1079), (9, 127, 1, 140, 1081, 1082, 0), (10, 30, 0, 141, 1085, 1086, 1087), (9, 132, 0, 142, 1089, 1091, 35), (10, 34, 0, 143, 1093, 1094, 1095), (10, 38, 0, 144, 1097, 1098, 1099), (9, 135, 1, 145, 1101, 1102, 0), (10, 42, 0, 146, 1104, 1105, 1106), (10, 47, 0, 147, 1108, 1109, 1110), (9, 139, 0, 148, 1112, 1114, 36), (10, 51, 0, 149, 1117, 1118, 1119), (10, 55, 0, 150, 1121, 1122, 1123), (9, 171, 0, 151, 1125, 1127, 37), (9, 168, 0, 152, 1129, 1131, 38), (9, 149, 0, 153, 1133, 1135, 39), (9, 142, 0, 154, 1137, 1139, 40), (9, 156, 0, 155, 1141, 1143, 41), (9, 159, 0, 156, 1145, 1147, 42), (9, 145, 0, 157, 1149, 1151, 43), (9, 162, 0, 158, 1153, 1155, 44), (9, 165, 0, 159, 1157, 1159, 45), (10, 59, 0, 160, 1161, 1162, 1163), (9, 174, 1, 161, 1165, 1166, 0), (9, 177, 0, 162, 1169, 1171, 46), (9, 180, 0, 163, 1173, 1175, 47), (10, 63, 0, 164, 1177, 1178, 1179), (9, 183, 0, 165, 1181, 1183, 48), (9, 186, 0, 166, 1185, 1187, 49), (10, 68, 0, 167, 1189, 1190, 1191), (10, 72, 0, 168, 1193, 1194, 1195), (9, 189, 0, 169, 1197, 1199, 50), (10, 76, 0, 170, 1201, 1202, 1203), (10, 80, 0, 171, 1205, 1206, 1207), (10, 84, 0, 172, 1209, 1210, 1211), (10, 88, 0, 173, 1213, 1214, 1215), (10, 92, 0, 174, 1217, 1218, 1219), (9, 192, 1, 175, 1221, 1222, 0), (9, 196, 0, 176, 1225, 1227, 51), (10, 96, 0, 177, 1229, 1230, 1231), (10, 100, 0, 178, 1233, 1234, 1235), (10, 104, 0, 179, 1237, 1238, 1239), (10, 108, 0, 180, 1241, 1242, 1243), (10, 112, 0, 181, 1245, 1246, 1247), (9, 228, 0, 182, 1249, 1251, 52), (9, 216, 0, 183, 1253, 1255, 53), (9, 222, 0, 184, 1257, 1259, 54), (9, 259, 0, 185, 1261, 1263, 55), (9, 262, 0, 186, 1265, 1267, 56), (9, 249, 0, 187, 1269, 1271, 57), (9, 240, 0, 188, 1273, 1275, 58), (9, 246, 0, 189, 1277, 1279, 59), (9, 234, 1, 190, 1281, 1282, 0), (9, 253, 0, 191, 1284, 1286, 60), (9, 256, 0, 192, 1288, 1290, 61), (10, 116, 0, 193, 1292, 1293, 1294), (10, 120, 0, 194, 1296, 1297, 1298), (10, 124, 0, 195, 1300, 1301, 1302), (10, 128, 0, 196, 1305, 1306, 1307), (10, 132, 0, 197, 1312, 1313, 1314), (10, 136, 0, 198, 1316, 1317, 1318), (10, 141, 0, 199, 1320, 1321, 1322), (10, 145, 0, 200, 1324, 1325, 1326), (9, 272, 1, 201, 1328, 1329, 0), (10, 149, 0, 202, 1331, 1332, 1333), (10, 153, 0, 203, 1335, 1336, 1337), (10, 157, 0, 204, 1339, 1340, 1341), (10, 161, 0, 205, 1344, 1345, 1346), (10, 165, 0, 206, 1348, 1349, 1350), (9, 282, 1, 207, 1352, 1353, 0), (10, 169, 0, 208, 1355, 1356, 1357), (10, 173, 0, 209, 1359, 1360, 1361), (10, 177, 0, 210, 1363, 1364, 1365)]
end
section
/-! an abstract machine over logical addresses: what the bytecode does to a heap that is a function -/
abbrev AH : Type := Nat → va_E
abbrev AN : Type := Nat × Nat
abbrev AF : Type := Nat × List Value × List Value × AH × AN
abbrev AR : Type := Option Value × AH × AN
def put (h : AH) (a : Nat) (c : va_E) : AH := fun q => if q = a then c else h q
def am_J : va_E := .inr (99, [])
def ck (h : AH) (a ci : Nat) : Bool := match h a with
  | .inr (c, _) => c == ci
  | _ => false
def gF (h : AH) (a ci f : Nat) : Option Value := match h a with
  | .inr (c, fs) => if c = ci then fs[f]? else none
  | _ => none
def pF (h : AH) (a ci f : Nat) (v : Value) : Option AH := match h a with
  | .inr (c, fs) => if c = ci ∧ f < fs.length then some (put h a (.inr (c, fs.set f v))) else none
  | _ => none
def ib (i : Int32) (n : Nat) : Bool := decide (¬ (i < 0 ∨ n ≤ i.toNatClampNeg))
def rI (h : AH) (a : Nat) (i : Int32) (t : Nat) : Option Int32 := match h a with
  | .inl (c, n, .inl f) => if c = t ∧ ib i n = true then some (f i.toNatClampNeg) else none
  | _ => none
def wI (h : AH) (a : Nat) (i : Int32) (t : Nat) (x : Int32) : Option AH := match h a with
  | .inl (c, n, .inl f) => if c = t ∧ ib i n = true then some (put h a (.inl (c, n, .inl (upd f i.toNatClampNeg x)))) else none
  | _ => none
def rR (h : AH) (a : Nat) (i : Int32) : Option Nat := match h a with
  | .inl (c, n, .inr (.inr (.inr (.inr f)))) => if (3 ≤ c ∧ c < 7) ∧ ib i n = true then f i.toNatClampNeg else none
  | _ => none
def aC : Nat → Nat := fun c => match c with
  | 3 => 7
  | 4 => 2
  | 5 => 5
  | 6 => 6
  | _ => 98
def tcO : Nat → Nat := fun c => match c with
  | 7 => 3
  | 2 => 4
  | 5 => 5
  | 6 => 6
  | _ => 97
def wR (h : AH) (a : Nat) (i : Int32) (v : Nat) : Option AH := match h a with
  | .inl (c, n, .inr (.inr (.inr (.inr f)))) => if ((3 ≤ c ∧ c < 7) ∧ ib i n = true) ∧ ck h v (aC c) = true then some (put h a (.inl (c, n, .inr (.inr (.inr (.inr (va_up f i.toNatClampNeg (some v)))))))) else none
  | _ => none
def aL (h : AH) (a : Nat) : Option Int32 := match h a with
  | .inl (c, n, .inl _) => if c < 3 ∨ c = 20 then some (Int32.ofNat n) else none
  | .inl (c, n, .inr (.inr (.inr (.inr _)))) => if 3 ≤ c ∧ c < 7 then some (Int32.ofNat n) else none
  | _ => none
def cpA (h : AH) (a0 a : Nat) (sp dp n : Int32) : Option AH := match h a0, h a with
  | .inl (c0, n0, .inl f), .inl (c1, n1, .inl g) => if (c0 = 0 ∧ c1 = 0) ∧ (¬ sp < 0 ∧ ¬ dp < 0 ∧ ¬ n < 0) ∧ sp.toNatClampNeg + n.toNatClampNeg ≤ n0 ∧ dp.toNatClampNeg + n.toNatClampNeg ≤ n1 then some (put h a (.inl (c1, n1, .inl (va_cpy f g sp.toNatClampNeg dp.toNatClampNeg n.toNatClampNeg)))) else none
  | _, _ => none
def dfl (ci : Nat) : List Value := (List.range (cN ci)).map fun f => defaultValue (cY ci f)
def okv (ty : FieldType) (v : Value) : Bool := match ty, v with
  | .int, .int _ => true
  | .boolean, .int x => x == 0 || x == 1
  | .array _, .ref _ => true
  | .object _, .ref _ => true
  | _, _ => false
def mO (k : Nat) : Nat := match mT[k]? with
  | some t => t.2.2.2.2.1
  | none => 96
def mA (k : Nat) : Nat := match mT[k]? with
  | some t => t.2.2.2.2.2.1
  | none => 0
def mL (k : Nat) : Nat := match mT[k]? with
  | some t => t.2.2.1
  | none => 0
def mR (k : Nat) : Option FieldType := match mT[k]? with
  | some t => t.2.2.2.1
  | none => none
def mC (k : Nat) : ByteArray := match mT[k]? with
  | some t => t.2.1
  | none => .mk #[]
def mY (k : Nat) : MethodName := match mT[k]? with
  | some t => t.1
  | none => ⟨"", "", ""⟩
def ins (k pc : Nat) : Option (Instr × Nat) := match decode (mC k) pc with
  | .ok x => some x
  | _ => none
def lkF (o i : Nat) : Option (Nat × Nat) := (tF.find? fun e => e.1 == o && e.2.1 == i).map fun e => (e.2.2.1, e.2.2.2.1)
def lkC (o i : Nat) : Option Nat := (tC.find? fun e => e.1 == o && e.2.1 == i).map fun e => e.2.2.1
def lkK (o i : Nat) : Option Int32 := (tK.find? fun e => e.1 == o && e.2.1 == i).map fun e => e.2.2.1
def lkM (o i : Nat) : Option (Nat × Nat) := (tM.find? fun e => e.1 == o && e.2.1 == i).map fun e => (e.2.2.1, e.2.2.2.1)
def lkG (o i : Nat) : Option Nat := if o = 8 then (if i = 128 then some 1 else if i = 134 then some 2 else if i = 137 then some 3 else none) else none
def lkS (o i : Nat) : Option Nat := if o = 4 then (if i = 70 then some 4 else if i = 72 then some 5 else if i = 74 then some 6 else if i = 76 then some 7 else if i = 78 then some 8 else if i = 80 then some 9 else none) else none
def strT : Nat → List Nat := fun a => match a with
  | 4 => [116, 104, 105, 114, 115, 116]
  | 5 => [102, 101, 101]
  | 6 => [102, 105, 110, 101]
  | 7 => [104, 115, 116]
  | 8 => [100, 108]
  | 9 => [115, 108]
  | _ => []
def isS (a : Nat) : Bool := decide (4 ≤ a) && decide (a ≤ 9)
def jmp (pc : Nat) (off : Int) : Nat := ((pc : Int) + off).toNat
def jok (pc : Nat) (off : Int) : Bool := decide (0 ≤ (pc : Int) + off)
def to (pc : Nat) (ls st : List Value) (h : AH) (nx : AN) : Option (AF ⊕ AR) := some (.inl (pc, ls, st, h, nx))
def i1 (st : List Value) (g : Int32 → List Value → Option (AF ⊕ AR)) : Option (AF ⊕ AR) := match st with
  | .int x :: r => g x r
  | _ => none
def i2 (st : List Value) (g : Int32 → Int32 → List Value → Option (AF ⊕ AR)) : Option (AF ⊕ AR) := match st with
  | .int y :: .int x :: r => g x y r
  | _ => none
def l2 (st : List Value) (g : Int64 → Int64 → List Value → Option (AF ⊕ AR)) : Option (AF ⊕ AR) := match st with
  | .long y :: .long x :: r => g x y r
  | _ => none
def br (c : Prop) (d : Decidable c) (pc : Nat) (off : Int) (ls st : List Value) (h : AH) (nx : AN) : Option (AF ⊕ AR) := if jok pc off = true then (if c then to (jmp pc off) ls st h nx else to (pc + 3) ls st h nx) else none
def ld (ls : List Value) (i t : Nat) : Option Value := match ls[i]?, t with
  | some (.int x), 0 => some (.int x)
  | some (.ref x), 1 => some (.ref x)
  | some (.long x), 2 => some (.long x)
  | _, _ => none
def st1 (ls : List Value) (i : Nat) (v : Value) : Option (List Value) := match ls[i]? with
  | some (.retAddr _) => none
  | some _ => some (ls.set i v)
  | none => none
def st2 (ls : List Value) (i : Nat) (v : Value) : Option (List Value) := match ls[i]?, ls[i + 1]? with
  | some (.retAddr _), _ => none
  | _, some (.long _) => none
  | some _, some _ => some ((ls.set i v).set (i + 1) (.retAddr 0))
  | _, _ => none
def nR (ty : FieldType) (v : Int32) : Bool := decide (narrow ty (.int v) = .int v)
def refTy : FieldType → Bool
  | .object _ => true
  | .array _ => true
  | _ => false
def rtn (v : Option Value) (h : AH) (nx : AN) : Option (AF ⊕ AR) := some (.inr (v, h, nx))
def aft (pc : Nat) (ls rest : List Value) : Option AR → Option (AF ⊕ AR)
  | none => none
  | some (v, h, nx) => to pc ls (v.toList ++ rest) h nx
def swt (pc : Nat) (ls st : List Value) (h : AH) (nx : AN) (o : Option Int) : Option (AF ⊕ AR) := match o with
  | some off => if jok pc off = true then to (jmp pc off) ls st h nx else none
  | none => none
def srt (ps : Array (Int × Int)) : Bool := (ps.toList.zip (ps.toList.drop 1)).all (fun (a, next) => a.1 < next.1)
def kLen : Nat := 215
def kChr : Nat := 217
end
section
/-- one instruction -/
def am_do (call : Nat → List Value → AH → AN → Option AR) (k : Nat) (i : Instr) (len pc : Nat) (ls st : List Value) (h : AH) (nx : AN) : Option (AF ⊕ AR) := match i with
  | .iconst n => if len = 1 then to (pc + 1) ls (.int (Int32.ofInt n) :: st) h nx else none
  | .bipush n => if len = 2 then to (pc + 2) ls (.int (Int8.ofInt n).toInt32 :: st) h nx else none
  | .sipush n => if len = 3 then to (pc + 3) ls (.int (Int16.ofInt n).toInt32 :: st) h nx else none
  | .lconst n => if len = 1 then to (pc + 1) ls (.long (Int64.ofNat (n : Nat)) :: st) h nx else none
  | .iload_n q => if len = 1 then (match ld ls q 0 with | some v => to (pc + 1) ls (v :: st) h nx | none => none) else none
  | .iload q => if len = 2 then (match ld ls q 0 with | some v => to (pc + 2) ls (v :: st) h nx | none => none) else none
  | .aload_n q => if len = 1 then (match ld ls q 1 with | some v => to (pc + 1) ls (v :: st) h nx | none => none) else none
  | .aload q => if len = 2 then (match ld ls q 1 with | some v => to (pc + 2) ls (v :: st) h nx | none => none) else none
  | .lload q => if len = 2 then (match ld ls q 2 with | some v => to (pc + 2) ls (v :: st) h nx | none => none) else none
  | .istore_n q => if len = 1 then i1 st fun x r => (match st1 ls q (.int x) with | some ls' => to (pc + 1) ls' r h nx | none => none) else none
  | .istore q => if len = 2 then i1 st fun x r => (match st1 ls q (.int x) with | some ls' => to (pc + 2) ls' r h nx | none => none) else none
  | .astore_n q => if len = 1 then (match st with | .ref x :: r => (match st1 ls q (.ref x) with | some ls' => to (pc + 1) ls' r h nx | none => none) | _ => none) else none
  | .astore q => if len = 2 then (match st with | .ref x :: r => (match st1 ls q (.ref x) with | some ls' => to (pc + 2) ls' r h nx | none => none) | _ => none) else none
  | .lstore q => if len = 2 then (match st with | .long x :: r => (match st2 ls q (.long x) with | some ls' => to (pc + 2) ls' r h nx | none => none) | _ => none) else none
  | .iinc q n => if len = 3 then (match ls[q]? with | some (.int x) => to (pc + 3) (ls.set q (.int (x + Int32.ofInt n))) st h nx | _ => none) else none
  | .iadd => if len = 1 then i2 st fun x y r => to (pc + 1) ls (.int (x + y) :: r) h nx else none
  | .isub => if len = 1 then i2 st fun x y r => to (pc + 1) ls (.int (x - y) :: r) h nx else none
  | .imul => if len = 1 then i2 st fun x y r => to (pc + 1) ls (.int (x * y) :: r) h nx else none
  | .iand => if len = 1 then i2 st fun x y r => to (pc + 1) ls (.int (x &&& y) :: r) h nx else none
  | .ior => if len = 1 then i2 st fun x y r => to (pc + 1) ls (.int (x ||| y) :: r) h nx else none
  | .ixor => if len = 1 then i2 st fun x y r => to (pc + 1) ls (.int (x ^^^ y) :: r) h nx else none
  | .idiv => if len = 1 then i2 st fun x y r => (if y = 0 then none else to (pc + 1) ls (.int (x / y) :: r) h nx) else none
  | .irem => if len = 1 then i2 st fun x y r => (if y = 0 then none else to (pc + 1) ls (.int (x - x / y * y) :: r) h nx) else none
  | .ishl => if len = 1 then i2 st fun x y r => to (pc + 1) ls (.int (x <<< (y &&& 31)) :: r) h nx else none
  | .ishr => if len = 1 then i2 st fun x y r => to (pc + 1) ls (.int (x >>> (y &&& 31)) :: r) h nx else none
  | .iushr => if len = 1 then i2 st fun x y r => to (pc + 1) ls (.int (x.toUInt32 >>> (y.toUInt32 &&& Int32.toUInt32 31)).toInt32 :: r) h nx else none
  | .ineg => if len = 1 then i1 st fun x r => to (pc + 1) ls (.int (-x) :: r) h nx else none
  | .i2l => if len = 1 then i1 st fun x r => to (pc + 1) ls (.long x.toInt64 :: r) h nx else none
  | .i2s => if len = 1 then i1 st fun x r => to (pc + 1) ls (.int x.toInt16.toInt32 :: r) h nx else none
  | .l2i => if len = 1 then (match st with | .long x :: r => to (pc + 1) ls (.int x.toInt32 :: r) h nx | _ => none) else none
  | .lneg => if len = 1 then (match st with | .long x :: r => to (pc + 1) ls (.long (-x) :: r) h nx | _ => none) else none
  | .ladd => if len = 1 then l2 st fun x y r => to (pc + 1) ls (.long (x + y) :: r) h nx else none
  | .lsub => if len = 1 then l2 st fun x y r => to (pc + 1) ls (.long (x - y) :: r) h nx else none
  | .lcmp => if len = 1 then l2 st fun x y r => to (pc + 1) ls (.int (lg_cmp x y) :: r) h nx else none
  | .dup => if len = 1 then (match st with | v :: r => if v.category = 1 then to (pc + 1) ls (v :: v :: r) h nx else none | _ => none) else none
  | .pop => if len = 1 then (match st with | v :: r => if v.category = 1 then to (pc + 1) ls r h nx else none | _ => none) else none
  | .dup2 => if len = 1 then (match st with | v :: w :: r => if v.category = 1 ∧ w.category = 1 then to (pc + 1) ls (v :: w :: v :: w :: r) h nx else none | _ => none) else none
  | .goto off => if len = 3 then (if jok pc off = true then to (jmp pc off) ls st h nx else none) else none
  | .ifCond c off => if len = 3 then i1 st fun x r => (match c with
      | .eq => br (x = 0) inferInstance pc off ls r h nx
      | .ne => br (¬ x = 0) inferInstance pc off ls r h nx
      | .lt => br (x < 0) inferInstance pc off ls r h nx
      | .ge => br (0 ≤ x) inferInstance pc off ls r h nx
      | .gt => br (0 < x) inferInstance pc off ls r h nx
      | .le => br (x ≤ 0) inferInstance pc off ls r h nx) else none
  | .if_icmp c off => if len = 3 then i2 st fun x y r => (match c with
      | .eq => br (x = y) inferInstance pc off ls r h nx
      | .ne => br (¬ x = y) inferInstance pc off ls r h nx
      | .lt => br (x < y) inferInstance pc off ls r h nx
      | .ge => br (y ≤ x) inferInstance pc off ls r h nx
      | .gt => br (y < x) inferInstance pc off ls r h nx
      | .le => br (x ≤ y) inferInstance pc off ls r h nx) else none
  | .tableswitch dflt lo hi offs => i1 st fun x r => (if x.toInt < lo ∨ hi < x.toInt then swt pc ls r h nx (some dflt) else swt pc ls r h nx (offs[(x.toInt - lo).toNat]?))
  | .lookupswitch dflt ps => if srt ps = true then i1 st fun x r => swt pc ls r h nx (some (Op.lookupswitch.offset ps.toList dflt x.toInt)) else none
  | .getfield ix => if len = 3 then (match lkF (mO k) ix, st with
      | some (ci, f), .ref a :: r => (match gF h a ci f with | some v => to (pc + 3) ls (v :: r) h nx | none => none)
      | _, _ => none) else none
  | .putfield ix => if len = 3 then (match lkF (mO k) ix, st with
      | some (ci, f), v :: .ref a :: r => if okv (cY ci f) v = true ∧ ((cT ci f).2.2.2 = false ∨ ((mY k).name = "<init>" ∧ mO k = ci)) then (match pF h a ci f v with | some h' => to (pc + 3) ls r h' nx | none => none) else none
      | _, _ => none) else none
  | .getstatic ix => if len = 3 then (match lkG (mO k) ix with | some a => to (pc + 3) ls (.ref a :: st) h nx | none => none) else none
  | .ldc ix => if len = 2 then (match lkK (mO k) ix with
      | some v => to (pc + 2) ls (.int v :: st) h nx
      | none => (match lkS (mO k) ix with | some a => to (pc + 2) ls (.ref a :: st) h nx | none => none)) else none
  | .ldc_w ix => if len = 3 then (match lkK (mO k) ix with | some v => to (pc + 3) ls (.int v :: st) h nx | none => none) else none
  | .iaload => if len = 1 then (match st with | .int i :: .ref a :: r => (match rI h a i 0 with
      | some x => to (pc + 1) ls (.int x :: r) h nx
      | none => (match rI h a i 20 with | some x => to (pc + 1) ls (.int x :: r) h nx | none => none)) | _ => none) else none
  | .baload => if len = 1 then (match st with | .int i :: .ref a :: r => (match rI h a i 1 with | some x => to (pc + 1) ls (.int x :: r) h nx | none => none) | _ => none) else none
  | .caload => if len = 1 then (match st with | .int i :: .ref a :: r => (match rI h a i 2 with | some x => to (pc + 1) ls (.int x :: r) h nx | none => none) | _ => none) else none
  | .aaload => if len = 1 then (match st with | .int i :: .ref a :: r => (match rR h a i with | some x => to (pc + 1) ls (.ref x :: r) h nx | none => none) | _ => none) else none
  | .iastore => if len = 1 then (match st with | .int x :: .int i :: .ref a :: r => (match wI h a i 0 x with | some h' => to (pc + 1) ls r h' nx | none => none) | _ => none) else none
  | .bastore => if len = 1 then (match st with | .int x :: .int i :: .ref a :: r => (match wI h a i 1 (vp_nar .boolean x) with | some h' => to (pc + 1) ls r h' nx | none => none) | _ => none) else none
  | .castore => if len = 1 then (match st with | .int x :: .int i :: .ref a :: r => (match wI h a i 2 (vp_nar .char x) with | some h' => to (pc + 1) ls r h' nx | none => none) | _ => none) else none
  | .aastore => if len = 1 then (match st with | .ref x :: .int i :: .ref a :: r => (match wR h a i x with | some h' => to (pc + 1) ls r h' nx | none => none) | _ => none) else none
  | .arraylength => if len = 1 then (match st with | .ref a :: r => (match aL h a with | some x => to (pc + 1) ls (.int x :: r) h nx | none => none) | _ => none) else none
  | .newarray t => if len = 2 then i1 st fun n r => (if n < 0 ∨ 10000 < n.toNatClampNeg then none else
      (match t with
        | .int => to (pc + 2) ls (.ref (16 + nx.1) :: r) (put h (16 + nx.1) (.inl (0, n.toNatClampNeg, .inl fun _ => 0))) (nx.1 + 1, nx.2 + n.toNatClampNeg)
        | .boolean => to (pc + 2) ls (.ref (16 + nx.1) :: r) (put h (16 + nx.1) (.inl (1, n.toNatClampNeg, .inl fun _ => 0))) (nx.1 + 1, nx.2 + n.toNatClampNeg)
        | .char => to (pc + 2) ls (.ref (16 + nx.1) :: r) (put h (16 + nx.1) (.inl (2, n.toNatClampNeg, .inl fun _ => 0))) (nx.1 + 1, nx.2 + n.toNatClampNeg)
        | _ => none)) else none
  | .anewarray ix => if len = 3 then i1 st fun n r => (match lkC (mO k) ix with
      | some ci => if n < 0 ∨ 10000 < n.toNatClampNeg ∨ 7 ≤ tcO ci then none else to (pc + 3) ls (.ref (16 + nx.1) :: r) (put h (16 + nx.1) (.inl (tcO ci, n.toNatClampNeg, .inr (.inr (.inr (.inr fun _ => none)))))) (nx.1 + 1, nx.2 + n.toNatClampNeg)
      | none => none) else none
  | .new ix => if len = 3 then (match lkC (mO k) ix with
      | some ci => to (pc + 3) ls (.ref (16 + nx.1) :: st) (put h (16 + nx.1) (.inr (ci, dfl ci))) (nx.1 + 1, nx.2 + cN ci)
      | none => none) else none
  | .invokevirtual ix => if len = 3 then (match lkM (mO k) ix with
      | some (0, k') => if k' = kLen ∨ k' = kChr then (match st.drop (mA k') with
            | .ref a :: r => if isS a = true ∧ r.length ≤ 4 then aft (pc + 3) ls r (call k' (.ref a :: (st.take (mA k')).reverse) h nx) else none
            | _ => none)
          else (match st.drop (mA k') with
            | .ref a :: r => if (ck h a (mO k') = true ∧ mO k' < 10) ∧ r.length ≤ 4 then aft (pc + 3) ls r (call k' (.ref a :: (st.take (mA k')).reverse) h nx) else none
            | _ => none)
      | _ => none) else none
  | .invokestatic ix => if len = 3 then (match lkM (mO k) ix with
      | some (1, k') => if mA k' ≤ st.length ∧ (st.drop (mA k')).length ≤ 4 then aft (pc + 3) ls (st.drop (mA k')) (call k' (st.take (mA k')).reverse h nx) else none
      | some (2, k') => if mA k' ≤ st.length ∧ (st.drop (mA k')).length ≤ 4 then aft (pc + 3) ls (st.drop (mA k')) (call k' (st.take (mA k')).reverse h nx) else none
      | some (6, _) => (match st with
          | .int n :: .int dp :: .ref a :: .int sp :: .ref a0 :: r => if r.length ≤ 4 then (match cpA h a0 a sp dp n with | some h' => to (pc + 3) ls r h' nx | none => none) else none
          | _ => none)
      | _ => none) else none
  | .invokespecial ix => if len = 3 then (match lkM (mO k) ix with
      | some (5, _) => (match st with | .ref _ :: r => if r.length ≤ 4 then to (pc + 3) ls r h nx else none | _ => none)
      | some (3, k') => (match st.drop (mA k') with
          | .ref a :: r => if r.length ≤ 4 then aft (pc + 3) ls r (call k' (.ref a :: (st.take (mA k')).reverse) h nx) else none
          | _ => none)
      | some (4, k') => (match st.drop (mA k') with
          | .ref a :: r => if r.length ≤ 4 then aft (pc + 3) ls r (call k' (.ref a :: (st.take (mA k')).reverse) h nx) else none
          | _ => none)
      | _ => none) else none
  | .ireturn => if len = 1 then (match st, mR k with | [.int v], some ty => if nR ty v = true then rtn (some (.int v)) h nx else none | _, _ => none) else none
  | .lreturn => if len = 1 then (match st, mR k with | [.long v], some .long => rtn (some (.long v)) h nx | _, _ => none) else none
  | .areturn => if len = 1 then (match st, mR k with | [.ref v], some ty => if refTy ty = true then rtn (some (.ref v)) h nx else none | _, _ => none) else none
  | .return_ => if len = 1 then (match st, mR k with | [], none => rtn none h nx | _, _ => none) else none
  | _ => none
def am_step (call : Nat → List Value → AH → AN → Option AR) (k pc : Nat) (ls st : List Value) (h : AH) (nx : AN) : Option (AF ⊕ AR) := match ins k pc with
  | some (i, len) => am_do call k i len pc ls st h nx
  | none => none
def am_itr (call : Nat → List Value → AH → AN → Option AR) (k : Nat) : Nat → AF → Option AR
  | 0, _ => none
  | n + 1, (pc, ls, st, h, nx) => match am_step call k pc ls st h nx with
    | none => none
    | some (.inl f) => am_itr call k n f
    | some (.inr r) => some r
theorem am_itr_mono {call : Nat → List Value → AH → AN → Option AR} {k : Nat} : ∀ {n : Nat} {f : AF} {r : AR}, am_itr call k n f = some r → ∀ m, am_itr call k (n + m) f = some r
  | 0, _, _, h, _ => by simp [am_itr] at h
  | n + 1, (pc, ls, st, hh, nx), r, h, m => by
    rw [show n + 1 + m = (n + m) + 1 by omega]
    unfold am_itr at h ⊢
    cases hs : am_step call k pc ls st hh nx with
    | none => rw [hs] at h; simp at h
    | some x =>
      rw [hs] at h
      cases x with
      | inl f => exact am_itr_mono h m
      | inr r' => exact h
noncomputable def am_lim (call : Nat → List Value → AH → AN → Option AR) (k : Nat) (f : AF) : Option AR := Classical.epsilon fun o => (∃ n r, am_itr call k n f = some r ∧ o = some r) ∨ ((∀ n, am_itr call k n f = none) ∧ o = none)
theorem am_lim_ok (call : Nat → List Value → AH → AN → Option AR) (k : Nat) (f : AF) : (∃ n r, am_itr call k n f = some r ∧ am_lim call k f = some r) ∨ ((∀ n, am_itr call k n f = none) ∧ am_lim call k f = none) := by
  refine Classical.epsilon_spec (p := fun o => (∃ n r, am_itr call k n f = some r ∧ o = some r) ∨ ((∀ n, am_itr call k n f = none) ∧ o = none)) ?_
  by_cases hx : ∃ n r, am_itr call k n f = some r
  · obtain ⟨n, r, h⟩ := hx
    exact ⟨some r, Or.inl ⟨n, r, h, rfl⟩⟩
  · refine ⟨none, Or.inr ⟨fun n => ?_, rfl⟩⟩
    cases h : am_itr call k n f with
    | none => rfl
    | some r => exact absurd ⟨n, r, h⟩ hx
theorem am_lim_some {call : Nat → List Value → AH → AN → Option AR} {k : Nat} {f : AF} {r : AR} : am_lim call k f = some r ↔ ∃ n, am_itr call k n f = some r := by
  rcases am_lim_ok call k f with ⟨n, r', h1, h2⟩ | ⟨h1, h2⟩
  · constructor
    · intro h
      rw [h2] at h
      cases h
      exact ⟨n, h1⟩
    · rintro ⟨m, hm⟩
      have a := am_itr_mono h1 m
      have b := am_itr_mono hm n
      rw [Nat.add_comm m n, a] at b
      rw [h2]; exact b
  · constructor
    · intro h; rw [h2] at h; cases h
    · rintro ⟨m, hm⟩; rw [h1 m] at hm; cases hm
def am_get : Option Value → Value
  | some v => v
  | none => .null
def am_entry (k : Nat) (args : List Value) : List Value := args ++ List.replicate (mL k - args.length) .null
/-- String.length, String.charAt of the String constants -/
def am_str (k : Nat) (args : List Value) (h : AH) (nx : AN) : Option AR := match args with
  | [.ref a] => if k = kLen ∧ isS a = true then some (some (.int (Int32.ofNat (strT a).length)), h, nx) else none
  | [.ref a, .int i] => if k = kChr ∧ isS a = true ∧ ib i (strT a).length = true then some (some (.int (Int32.ofNat ((strT a).getD i.toNatClampNeg 0))), h, nx) else none
  | _ => none
def isIR : Value → Bool
  | .int _ => true
  | .ref _ => true
  | _ => false
def aok (k : Nat) (args : List Value) : Bool := decide (args.length ≤ mL k) && args.all isIR
noncomputable def Dn : Nat → Nat → List Value → AH → AN → Option AR
  | 0 => fun _ _ _ _ => none
  | d + 1 => fun k args h nx => if k = kLen ∨ k = kChr then (if 8 ≤ d then am_str k args h nx else none) else if aok k args = true then am_lim (Dn d) k (0, am_entry k args, [], h, nx) else none
noncomputable def Df (d k pc : Nat) (ls st : List Value) (h : AH) (nx : AN) : Option AR := am_lim (Dn d) k (pc, ls, st, h, nx)
noncomputable def fin (d k : Nat) : Option (AF ⊕ AR) → Option AR
  | none => none
  | some (.inl (pc, ls, st, h, nx)) => Df d k pc ls st h nx
  | some (.inr r) => some r
theorem am_lim_eq (call : Nat → List Value → AH → AN → Option AR) (k pc : Nat) (ls st : List Value) (h : AH) (nx : AN) : am_lim call k (pc, ls, st, h, nx) = match am_step call k pc ls st h nx with
    | none => none
    | some (.inl f) => am_lim call k f
    | some (.inr r) => some r := by
  apply Option.ext
  intro r
  rw [am_lim_some]
  cases hs : am_step call k pc ls st h nx with
  | none =>
    refine ⟨?_, fun h => by cases h⟩
    rintro ⟨n, hn⟩
    cases n with
    | zero => simp [am_itr] at hn
    | succ n => simp [am_itr, hs] at hn
  | some x =>
    cases x with
    | inl f =>
      show _ ↔ am_lim call k f = some r
      rw [am_lim_some]
      constructor
      · rintro ⟨n, hn⟩
        cases n with
        | zero => simp [am_itr] at hn
        | succ n => exact ⟨n, by simpa [am_itr, hs] using hn⟩
      · rintro ⟨n, hn⟩
        exact ⟨n + 1, by simpa [am_itr, hs] using hn⟩
    | inr r' =>
      constructor
      · rintro ⟨n, hn⟩
        cases n with
        | zero => simp [am_itr] at hn
        | succ n => simpa [am_itr, hs] using hn
      · intro hr
        exact ⟨1, by simpa [am_itr, hs] using hr⟩
theorem Df_eq (d k pc : Nat) (ls st : List Value) (h : AH) (nx : AN) {i : Instr} {len : Nat} (hi : ins k pc = some (i, len)) : Df d k pc ls st h nx = fin d k (am_do (Dn d) k i len pc ls st h nx) := by
  unfold Df
  rw [am_lim_eq]
  unfold am_step
  rw [hi]
  dsimp only
  cases am_do (Dn d) k i len pc ls st h nx with
  | none => rfl
  | some x =>
    cases x with
    | inl f => obtain ⟨a, b, c, e, g⟩ := f; rfl
    | inr r => rfl
theorem Dn_eq (d k : Nat) (args : List Value) (h : AH) (nx : AN) (hk : ¬ (k = kLen ∨ k = kChr)) (hl : aok k args = true) : Dn (d + 1) k args h nx = Df d k 0 (am_entry k args) [] h nx := by
  simp only [Dn, Df, hl, hk, if_true, if_false]
end
section
/-! the tables' words behind the machine's links -/
def gw : List Cond := lw_tbl.filter goodWord
theorem gw_at {j : Nat} {w : Cond} (h : lwa j = some w) (hg : goodWord w = true) : w ∈ gw := List.mem_filter.mpr ⟨lwa_mem h, hg⟩
def tF_ck (e : Nat × Nat × Nat × Nat × Nat) : Bool := decide (lwa (e.2.2.2.2) = some (.fieldLink (oN e.1) e.2.1 (cT e.2.2.1 e.2.2.2.1).1 (cT e.2.2.1 e.2.2.2.1).2.1 (cT e.2.2.1 e.2.2.2.1).2.2.1)) && decide (e.2.2.1 < 10) && decide (e.2.2.2.1 < cN e.2.2.1)
theorem tF_ok : tF.all tF_ck = true := by decide +kernel
def tC_ck (e : Nat × Nat × Nat × Nat × Nat × Nat) : Bool := decide (lwa (e.2.2.2.1) = some (.classLink (oN e.1) e.2.1 (oN e.2.2.1))) && decide (lwa (e.2.2.2.2.1) = some (.instantiable (oN e.2.2.1) (cN e.2.2.1))) && decide (lwa (e.2.2.2.2.2) = some (.initialized (oN e.2.2.1))) && decide (e.2.2.1 < 10)
theorem tC_ok : tC.all tC_ck = true := by decide +kernel
def tK_ck (e : Nat × Nat × Int32 × Nat) : Bool := decide (lwa (e.2.2.2) = some (.constant (oN e.1) e.2.1 e.2.2.1))
theorem tK_ok : tK.all tK_ck = true := by decide +kernel
/-- a method's own rows: its code word, its class initialised, its class known, its parameters counted -/
def mT_ck (t : MTy) : Bool := decide (lwa (t.2.2.2.2.2.2.2) = some (.initialized t.1.cls)) && decide (t.1.cls = oN t.2.2.2.2.1) && decide (t.1.cls ≠ "java/lang/invoke/MethodHandle" ∧ t.1.cls ≠ "java/lang/invoke/VarHandle") && decide (t.2.2.1 ≤ 40)
theorem mT_ok : mTs.all mT_ck = true := by decide +kernel
theorem mT_pl : mTs.all (fun t => plainFor t.1) = true := by decide +kernel
def mT_dk (t : MTy) : Bool := decide ((parseMethodDescriptor t.1.desc).map (fun d => d.parameters.length) = some t.2.2.2.2.2.1)
theorem mT_de : mTs.all mT_dk = true := by decide +kernel
theorem mTs_len : mTs.length = kLaw := by decide +kernel
def tM_ck (e : Nat × Nat × Nat × Nat × Nat × Nat × Nat) : Bool := match e.2.2.1 with
  | 0 => decide (lwa (e.2.2.2.2.1) = some (.methodLink (oN e.1) e.2.1 (mY e.2.2.2.1))) && decide (lwa (e.2.2.2.2.2.1) = some (.instanceMethod (mY e.2.2.2.1))) && decide (lwa (e.2.2.2.2.2.2) = some (.selects (mY e.2.2.2.1).cls (mY e.2.2.2.1) (mY e.2.2.2.1))) && decide (e.2.2.2.1 < kLaw)
  | 1 => decide (lwa (e.2.2.2.2.1) = some (.methodLink (oN e.1) e.2.1 (mY e.2.2.2.1))) && decide (lwa (e.2.2.2.2.2.1) = some (.static (mY e.2.2.2.1))) && decide (e.2.2.2.1 < kLaw)
  | 2 => decide (lwa (e.2.2.2.2.1) = some (.methodLinkNest (oN e.1) e.2.1 (mY e.2.2.2.1) "ThirstLead")) && decide (lwa (e.2.2.2.2.2.1) = some (.static (mY e.2.2.2.1))) && decide (e.2.2.2.1 < kLaw)
  | 3 => decide (lwa (e.2.2.2.2.1) = some (.methodLink (oN e.1) e.2.1 (mY e.2.2.2.1))) && decide (lwa (e.2.2.2.2.2.1) = some (.instanceMethod (mY e.2.2.2.1))) && decide (e.2.2.2.1 < kLaw) && decide ((mY e.2.2.2.1).name = "<init>") && decide (mR e.2.2.2.1 = none)
  | 4 => decide (lwa (e.2.2.2.2.1) = some (.methodLinkNest (oN e.1) e.2.1 (mY e.2.2.2.1) "ThirstLead")) && decide (lwa (e.2.2.2.2.2.1) = some (.instanceMethod (mY e.2.2.2.1))) && decide (e.2.2.2.1 < kLaw) && decide ((mY e.2.2.2.1).name = "<init>") && decide (mR e.2.2.2.1 = none)
  | 5 => decide (lwa (e.2.2.2.2.1) = some (.methodLink (oN e.1) e.2.1 Lib.objectInit)) && decide (lwa (e.2.2.2.2.2.1) = some (.instanceMethod Lib.objectInit))
  | 6 => decide (lwa (e.2.2.2.2.1) = some (.methodLink (oN e.1) e.2.1 arraycopyName)) && decide (lwa (e.2.2.2.2.2.1) = some (.static arraycopyName)) && decide (lwa (e.2.2.2.2.2.2) = some (.native arraycopyName))
  | _ => false
theorem tM_ok : tM.all tM_ck = true := by decide +kernel
def cPl : List (List Nat) := [[194, 196], [158, 160, 162, 164, 166, 168, 170, 172, 174, 176, 178, 180, 182], [222, 224, 226, 228], [234, 236], [256, 258, 260, 262, 264, 266], [284, 286, 288], [308, 310, 312, 314], [118, 120, 122, 124, 126, 128], [328, 330, 332, 334, 336, 338, 340, 342, 344, 346, 348], [939, 941, 943, 945, 947, 949, 951, 953, 955, 957, 959, 961, 963, 965, 967, 969, 971, 973, 975, 977, 979, 981, 983, 985, 987, 989, 991, 993, 995, 997, 999, 1001, 1003, 1005]]
theorem cls_ok : (List.range 10).all (fun ci => (List.range (cN ci)).all (fun f => decide (lwa ((cPl.getD ci []).getD f 0) = some (u_lay (oN ci) (cT ci) f)) && goodWord (u_lay (oN ci) (cT ci) f))) = true := by decide +kernel
theorem cY_ok : (List.range 10).all (fun ci => (List.range (cN ci)).all (fun f => decide (parseFieldDescriptor (cT ci f).2.2.1 = some (cY ci f)))) = true := by decide +kernel
theorem nm_ok : (List.range 10).all (fun ci => (List.range (cN ci)).all (fun a => (List.range (cN ci)).all fun b => decide (a ≠ b → (cT ci a).2.1 ≠ (cT ci b).2.1))) = true := by decide +kernel
theorem own_ok : (List.range 10).all (fun ci => (List.range (cN ci)).all (fun f => decide ((cT ci f).1 = oN ci))) = true := by decide +kernel
theorem oi_code : Cond.code Lib.objectInit ⟨#[0xb1]⟩ 1 none ∈ gw := gw_at (j := 86) (by decide +kernel) rfl
theorem sys_ini : Cond.initialized "java/lang/System" ∈ gw := gw_at (j := 74) (by decide +kernel) rfl
theorem ac_int : Cond.arrayClass .int ∈ gw := gw_at (j := 131) (by decide +kernel) rfl
theorem ac_bool : Cond.arrayClass .boolean ∈ gw := gw_at (j := 1009) (by decide +kernel) rfl
theorem ac_char : Cond.arrayClass .char ∈ gw := gw_at (j := 1008) (by decide +kernel) rfl
end
section
/-! the abstract state beside the machine's own -/
def sv (ad : Nat → Nat) : Value → Value
  | .ref a => .ref (ad a)
  | v => v
def se (ad dA : Nat → Nat) : va_E → va_E
  | .inl (c, n, .inr (.inr (.inr (.inr g)))) => .inl (dA c, n, .inr (.inr (.inr (.inr fun i => (g i).map ad))))
  | .inl (c, x) => .inl (dA c, x)
  | .inr (ci, fs) => .inr (ci, fs.map (sv ad))
def am_ws (ad dA : Nat → Nat) (h : AH) (n : Nat) : va_W := (List.range n).map fun i => (ad (16 + i), se ad dA (h (16 + i)))
def am_tys (dA : Nat → Nat) : List (ClassId × FieldType) := [(dA 0, .int), (dA 1, .boolean), (dA 2, .char), (dA 3, .object (oN 7)), (dA 4, .object (oN 2)), (dA 5, .object (oN 5)), (dA 6, .object (oN 6))]
def vis : Value → Bool
  | .int _ => true
  | .ref _ => true
  | .long _ => true
  | _ => false
/-- the locals -/
def LR (ad : Nat → Nat) (cls : Array Slot) (nL : Nat) (ls : List Value) : Prop := cls.size = nL ∧ lv_wf cls ∧ ls.length = nL ∧ (∀ (j : Nat) (v : Value), ls[j]? = some v → vis v = true → cls[j]? = some (.val (sv ad v))) ∧ ∀ (j : Nat) (x : Int64), ls[j]? = some (.long x) → ∃ q, ls[j + 1]? = some (.retAddr q)
def am_A (sz : Nat) : Nat → Prop := fun q => sz ≤ q
/-- the abstract heap: nothing beyond the cells that are made; below 16 only rows that nobody writes, as the machine's start has them -/
def am_H (ad : Nat → Nat) (sz : Nat) (h : AH) (nx : AN) (s : State) : Prop := (∀ a, 16 + nx.1 ≤ a → h a = am_J) ∧ (∀ a, a < 16 → h a = am_J ∨ ∃ n f, h a = .inl (20, n, .inl f)) ∧ ∀ a n f, h a = .inl (20, n, .inl f) → a < 16 ∧ va_T .int (ad a) n (fun j => .int (f j)) (am_A sz) s s.heap
def am_nest : List (Nat × Nat × Nat) := (tM.filter fun e => e.2.2.1 == 2 || e.2.2.1 == 4).map fun e => (e.1, e.2.1, e.2.2.2.1)
def sLen : List Nat := [6, 3, 4, 3, 2, 2]
def sByt : List (List Int32) := [[116, 104, 105, 114, 115, 116], [102, 101, 101], [102, 105, 110, 101], [104, 115, 116], [100, 108], [115, 108]]
def sTx : List (Nat × String) := [(70, "thirst"), (72, "fee"), (74, "fine"), (76, "hst"), (78, "dl"), (80, "sl")]
/-- the String constants, and what their methods read -/
def am_T (ad : Nat → Nat) (sz : Nat) (s : State) : Prop := (∃ adV, vk_S 6 sLen sByt (fun i => ad (4 + i)) adV (am_A sz) s s.heap) ∧ (∀ i q, sTx[i]? = some q → vk_R (oN 4) q.1 q.2 (ad (4 + i)) s) ∧
  va_Z "java/lang/String" "COMPACT_STRINGS" "Z" (.int 1) (am_A sz) s s.heap ∧ va_Zq "jdk/internal/util/Preconditions" "SIOOBE_FORMATTER" "Ljava/util/function/BiFunction;" (am_A sz) s s.heap
/-- what stays as it is while a method runs -/
def am_C (D : va_G) (ad dA : Nat → Nat) (sz : Nat) (s : State) : Prop := (∀ i, ad (16 + i) = sz + i) ∧ sz ≤ s.heap.size ∧ va_K D classes (am_tys dA) s ∧
  (va_AO (oN 7) s ∧ va_AO (oN 2) s ∧ va_AO (oN 5) s ∧ va_AO (oN 6) s) ∧ (∀ e ∈ am_nest, va_Nw (.methodLinkNest (oN e.1) e.2.1 (mY e.2.2) "ThirstLead") s) ∧
  (va_Z "ThirstLead" "SET_MOST" "[I" (.ref (ad 1)) (am_A sz) s s.heap ∧ va_Z "ThirstLead" "RULE_MOST" "[I" (.ref (ad 2)) (am_A sz) s s.heap ∧ va_Z "ThirstLead" "RULE_LEAST" "[I" (.ref (ad 3)) (am_A sz) s s.heap) ∧ am_T ad sz s
theorem sv_cat (ad : Nat → Nat) (v : Value) : (sv ad v).category = v.category := by cases v <;> rfl
theorem am_ws_len (ad dA : Nat → Nat) (h : AH) (n : Nat) : (am_ws ad dA h n).length = n := by simp [am_ws]
theorem am_ws_at {ad dA : Nat → Nat} {h : AH} {n i : Nat} (hi : i < n) : (am_ws ad dA h n)[i]? = some (ad (16 + i), se ad dA (h (16 + i))) := by simp [am_ws, hi]
theorem am_ws_set {ad dA : Nat → Nat} {h : AH} {n i : Nat} (hi : i < n) (c : va_E) : (am_ws ad dA h n).set i (ad (16 + i), se ad dA c) = am_ws ad dA (put h (16 + i) c) n := by
  apply List.ext_getElem?
  intro j
  rw [List.getElem?_set]
  by_cases hj : i = j
  · subst hj
    rw [if_pos rfl, am_ws_len, if_pos hi, am_ws_at hi]
    simp [put]
  · rw [if_neg hj]
    by_cases hjn : j < n
    · rw [am_ws_at hjn, am_ws_at hjn]
      rw [show put h (16 + i) c (16 + j) = h (16 + j) from if_neg (by omega)]
    · rw [List.getElem?_eq_none (by rw [am_ws_len]; omega), List.getElem?_eq_none (by rw [am_ws_len]; omega)]
theorem am_ws_push {ad dA : Nat → Nat} {h : AH} {n : Nat} (c : va_E) : am_ws ad dA h n ++ [(ad (16 + n), se ad dA c)] = am_ws ad dA (put h (16 + n) c) (n + 1) := by
  apply List.ext_getElem?
  intro j
  by_cases hj : j < n
  · rw [List.getElem?_append_left (by rw [am_ws_len]; exact hj), am_ws_at hj, am_ws_at (by omega)]
    rw [show put h (16 + n) c (16 + j) = h (16 + j) from if_neg (by omega)]
  · rw [List.getElem?_append_right (by rw [am_ws_len]; omega), am_ws_len]
    by_cases hn : j = n
    · subst hn
      rw [am_ws_at (by omega)]
      simp [put]
    · rw [List.getElem?_eq_none (by simp; omega), List.getElem?_eq_none (by rw [am_ws_len]; omega)]
theorem am_D {ad dA : Nat → Nat} {sz : Nat} (had : ∀ i, ad (16 + i) = sz + i) (h : AH) (n : Nat) : va_D (am_A sz) (am_ws ad dA h n) := by
  have key : ∀ (i : Nat) (p : Nat × va_E), (am_ws ad dA h n)[i]? = some p → p.1 = sz + i := by
    intro i p hp
    by_cases hi : i < n
    · rw [am_ws_at hi] at hp
      cases hp
      exact had i
    · rw [List.getElem?_eq_none (by rw [am_ws_len]; omega)] at hp
      cases hp
  refine ⟨fun i j p q hp hq e => ?_, fun k q hq => ?_⟩
  · rw [key i p hp, key j q hq] at e
    omega
  · show sz ≤ q.1
    rw [key k q hq]
    omega
theorem put_same (h : AH) (a : Nat) (c : va_E) : put h a c a = c := by simp [put]
theorem put_ne (h : AH) {a b : Nat} (c : va_E) (n : b ≠ a) : put h a c b = h b := by simp [put, n]
theorem am_H.set {ad : Nat → Nat} {sz : Nat} {h : AH} {nx : AN} {s : State} (hH : am_H ad sz h nx s) {a : Nat} (h1 : 16 ≤ a) (h2 : a < 16 + nx.1) {c : va_E} (hc : ∀ n f, c ≠ .inl (20, n, .inl f)) : am_H ad sz (put h a c) nx s := by
  obtain ⟨q1, q2, q3⟩ := hH
  refine ⟨fun b hb => ?_, fun b hb => ?_, fun b n f hb => ?_⟩
  · rw [put_ne _ _ (by omega)]; exact q1 b hb
  · rw [put_ne _ _ (by omega)]; exact q2 b hb
  · by_cases e : b = a
    · subst e
      rw [put_same] at hb
      exact absurd hb (hc n f)
    · rw [put_ne _ _ e] at hb
      exact q3 b n f hb
theorem am_H.push {ad : Nat → Nat} {sz : Nat} {h : AH} {nx : AN} {s : State} (hH : am_H ad sz h nx s) {c : va_E} (hc : ∀ n f, c ≠ .inl (20, n, .inl f)) (m : Nat) : am_H ad sz (put h (16 + nx.1) c) (nx.1 + 1, m) s := by
  obtain ⟨q1, q2, q3⟩ := hH
  refine ⟨fun b hb => ?_, fun b hb => ?_, fun b n f hb => ?_⟩
  · have hb : 16 + (nx.1 + 1) ≤ b := hb
    rw [put_ne _ _ (by omega)]; exact q1 b (by omega)
  · rw [put_ne _ _ (by omega)]; exact q2 b hb
  · by_cases e : b = 16 + nx.1
    · subst e
      rw [put_same] at hb
      exact absurd hb (hc n f)
    · rw [put_ne _ _ e] at hb
      exact q3 b n f hb
/-- a cell that is an object of ours, or an array of ours, is one that was made -/
theorem am_H.made {ad : Nat → Nat} {sz : Nat} {h : AH} {nx : AN} {s : State} (hH : am_H ad sz h nx s) {a : Nat} (h1 : h a ≠ am_J) (h2 : ∀ n f, h a ≠ .inl (20, n, .inl f)) : ∃ i, i < nx.1 ∧ a = 16 + i := by
  obtain ⟨q1, q2, q3⟩ := hH
  by_cases hl : a < 16
  · rcases q2 a hl with e | ⟨n, f, e⟩
    · exact absurd e h1
    · exact absurd e (h2 n f)
  · by_cases hu : a < 16 + nx.1
    · exact ⟨a - 16, by omega, by omega⟩
    · exact absurd (q1 a (by omega)) h1
def am_lv (ad : Nat → Nat) (ls : List Value) : List (Nat × Value) := (List.range ls.length).filterMap fun j => match ls[j]? with
  | some v => if vis v = true then some (j, sv ad v) else none
  | none => none
theorem am_lv_mem {ad : Nat → Nat} {ls : List Value} {j : Nat} {w : Value} : (j, w) ∈ am_lv ad ls ↔ ∃ v, ls[j]? = some v ∧ vis v = true ∧ w = sv ad v := by
  unfold am_lv
  rw [List.mem_filterMap]
  constructor
  · rintro ⟨i, hi, e⟩
    cases hv : ls[i]? with
    | none => rw [hv] at e; cases e
    | some v =>
      rw [hv] at e
      by_cases hvv : vis v = true
      · simp only [hvv, if_true, Option.some.injEq, Prod.mk.injEq] at e
        obtain ⟨rfl, rfl⟩ := e
        exact ⟨v, hv, hvv, rfl⟩
      · simp [hvv] at e
  · rintro ⟨v, hv, hvv, rfl⟩
    refine ⟨j, ?_, by rw [hv]; simp [hvv]⟩
    rw [List.mem_range]
    exact (List.getElem?_eq_some_iff.mp hv).1
theorem LR.has {ad : Nat → Nat} {cls : Array Slot} {nL : Nat} {ls : List Value} (h : LR ad cls nL ls) : lv_has cls nL (am_lv ad ls) := by
  refine ⟨h.1, h.2.1, fun q hq => ?_⟩
  obtain ⟨v, h1, h2, h3⟩ := am_lv_mem.mp (show (q.1, q.2) ∈ am_lv ad ls from hq)
  rw [h3]
  exact h.2.2.2.1 q.1 v h1 h2
theorem LR.at {ad : Nat → Nat} {cls : Array Slot} {nL : Nat} {ls : List Value} (h : LR ad cls nL ls) {j : Nat} {v : Value} (hv : ls[j]? = some v) (hvv : vis v = true) : cls[j]? = some (.val (sv ad v)) := h.2.2.2.1 j v hv hvv
/-- a value of one slot is stored -/
theorem LR.put1 {ad : Nat → Nat} {cls cls' : Array Slot} {nL i : Nat} {ls : List Value} {v : Value} (h : LR ad cls nL ls) (hi : i < nL) (hv : v.category = 1) (hn : ∀ q, ls[i]? ≠ some (.retAddr q))
    (h' : lv_has cls' nL ((i, sv ad v) :: (am_lv ad ls).filter (fun q => !(q.1 == i) && !(q.1 + 1 == i && q.2.category == 2)))) : LR ad cls' nL (ls.set i v) := by
  have hlen : ls.length = nL := h.2.2.1
  refine ⟨h'.1, h'.2.1, by rw [List.length_set]; exact hlen, fun j w hw hvw => ?_, fun j x hx => ?_⟩
  · by_cases e : i = j
    · subst e
      rw [List.getElem?_set_self (by omega)] at hw
      cases hw
      exact h'.2.2 (i, sv ad v) List.mem_cons_self
    · rw [List.getElem?_set_ne e] at hw
      refine h'.2.2 (j, sv ad w) (List.mem_cons_of_mem _ (List.mem_filter.mpr ⟨am_lv_mem.mpr ⟨w, hw, hvw, rfl⟩, ?_⟩))
      simp only [Bool.and_eq_true, Bool.not_eq_true', beq_eq_false_iff_ne, ne_eq, Bool.and_eq_false_iff]
      refine ⟨fun q => e q.symm, ?_⟩
      by_cases e2 : j + 1 = i
      · refine Or.inr ?_
        rw [sv_cat]
        intro hc
        cases w with
        | long x =>
          obtain ⟨q, hq⟩ := h.2.2.2.2 j x hw
          rw [e2] at hq
          exact hn q hq
        | double x => cases hvw
        | _ => cases hc
      · exact Or.inl e2
  · by_cases e : i = j
    · subst e
      rw [List.getElem?_set_self (by omega)] at hx
      cases hx
      cases hv
    · rw [List.getElem?_set_ne e] at hx
      obtain ⟨q, hq⟩ := h.2.2.2.2 j x hx
      by_cases e2 : i = j + 1
      · subst e2
        exact absurd hq (hn q)
      · exact ⟨q, by rw [List.getElem?_set_ne e2]; exact hq⟩
theorem LR.put2 {ad : Nat → Nat} {cls cls' : Array Slot} {nL i : Nat} {ls : List Value} {x : Int64} (h : LR ad cls nL ls) (hi : i + 1 < nL) (hn : ∀ q, ls[i]? ≠ some (.retAddr q)) (hn2 : ∀ q, ls[i + 1]? ≠ some (.long q))
    (h' : lv_has cls' nL ((i, .long x) :: (am_lv ad ls).filter (fun q => !(q.1 == i) && (!(q.1 == i + 1) && !(q.1 + 1 == i && q.2.category == 2))))) : LR ad cls' nL ((ls.set i (.long x)).set (i + 1) (.retAddr 0)) := by
  have hlen : ls.length = nL := h.2.2.1
  refine ⟨h'.1, h'.2.1, by rw [List.length_set, List.length_set]; exact hlen, fun j w hw hvw => ?_, fun j y hy => ?_⟩
  · by_cases e1 : i + 1 = j
    · subst e1
      rw [List.getElem?_set_self (by rw [List.length_set]; omega)] at hw
      cases hw
      cases hvw
    · rw [List.getElem?_set_ne e1] at hw
      by_cases e : i = j
      · subst e
        rw [List.getElem?_set_self (by omega)] at hw
        cases hw
        exact h'.2.2 (i, .long x) List.mem_cons_self
      · rw [List.getElem?_set_ne e] at hw
        refine h'.2.2 (j, sv ad w) (List.mem_cons_of_mem _ (List.mem_filter.mpr ⟨am_lv_mem.mpr ⟨w, hw, hvw, rfl⟩, ?_⟩))
        simp only [Bool.and_eq_true, Bool.not_eq_true', beq_eq_false_iff_ne, ne_eq, Bool.and_eq_false_iff]
        refine ⟨fun q => e q.symm, fun q => e1 q.symm, ?_⟩
        by_cases e2 : j + 1 = i
        · refine Or.inr ?_
          rw [sv_cat]
          intro hc
          cases w with
          | long z =>
            obtain ⟨q, hq⟩ := h.2.2.2.2 j z hw
            rw [e2] at hq
            exact hn q hq
          | double z => cases hvw
          | _ => cases hc
        · exact Or.inl e2
  · by_cases e1 : i + 1 = j
    · subst e1
      rw [List.getElem?_set_self (by rw [List.length_set]; omega)] at hy
      cases hy
    · rw [List.getElem?_set_ne e1] at hy
      by_cases e : i = j
      · subst e
        exact ⟨0, by rw [List.getElem?_set_self (by rw [List.length_set]; omega)]⟩
      · rw [List.getElem?_set_ne e] at hy
        obtain ⟨q, hq⟩ := h.2.2.2.2 j y hy
        have n1 : i ≠ j + 1 := fun z => by subst z; exact hn q hq
        have n2 : i + 1 ≠ j + 1 := by omega
        exact ⟨q, by rw [List.getElem?_set_ne n2, List.getElem?_set_ne n1]; exact hq⟩
/-- all that a walk keeps -/
def am_St (D : va_G) (ad dA : Nat → Nat) (sz : Nat) (s : State) (nL : Nat) (n0 : AN) (ls : List Value) (h : AH) (nx : AN) (cls : Array Slot) (H : Heap) (locs : List Loc) (cells slots : Nat) : Prop :=
  LR ad cls nL ls ∧ va_P D classes (am_ws ad dA h nx.1) H ∧ va_S (am_A sz) s.heap H locs ∧ am_H ad sz h nx s ∧ n0.1 + cells = nx.1 ∧ n0.2 + slots = nx.2
end
section
/-! the simulation: what the abstract machine does, the model's machine does -/
theorem ins_dec {k pc : Nat} {x : Instr × Nat} (h : ins k pc = some x) : decode (mC k) pc = .ok x := by
  unfold ins at h
  cases hd : decode (mC k) pc with
  | ok y => rw [hd] at h; cases h; rfl
  | error y => rw [hd] at h; cases h
def am_B (p : Program) (R : Room) (s : State) (m : MethodId) (args : Array Value) (meth : Method) (c : Code) (D : va_G) (ad dA : Nat → Nat) (sz k d : Nat) (n0 : AN) : Prop :=
  p.tables.exec = Jvm.exec ∧ c.code = mC k ∧ c.maxLocals = mL k ∧ s.vm.findClass (oN (mO k)) = some m.cls ∧ (∀ w ∈ gw, w.before args s = true) ∧ am_C D ad dA sz s ∧ meth.name = (mY k).name ∧ d + 1 ≤ R.frames ∧ 64 * (d + 1) ≤ R.locals ∧ s.heap.size = sz + n0.1
def am_W (p : Program) (l : Launch) (e : Env) (R : Room) (s : State) (m : MethodId) (args : Array Value) (below : List Frame) (meth : Method) (c : Code) (Q : State → Prop) (D : va_G) (ad dA : Nat → Nat) (sz k : Nat) (n0 : AN) (f : AF) : Prop :=
  ∀ (cls : Array Slot) (H : Heap) (locs : List Loc) (cells slots : Nat), am_St D ad dA sz s (mL k) n0 f.2.1 f.2.2.2.1 f.2.2.2.2 cls H locs cells slots → W p l e R s m args below meth c H locs cells slots Q (F0 m f.1 cls (f.2.2.1.map (sv ad)))
theorem to_inj {pc : Nat} {ls st : List Value} {h : AH} {nx : AN} {f : AF} (q : to pc ls st h nx = some (.inl f)) : f = (pc, ls, st, h, nx) := by
  simp only [to, Option.some.injEq, Sum.inl.injEq] at q
  exact q.symm
theorem i1_some {st : List Value} {g : Int32 → List Value → Option (AF ⊕ AR)} {x : AF ⊕ AR} (q : i1 st g = some x) : ∃ y r, st = .int y :: r ∧ g y r = some x := by
  unfold i1 at q
  split at q
  · exact ⟨_, _, rfl, q⟩
  · cases q
theorem i2_some {st : List Value} {g : Int32 → Int32 → List Value → Option (AF ⊕ AR)} {x : AF ⊕ AR} (q : i2 st g = some x) : ∃ a b r, st = .int b :: .int a :: r ∧ g a b r = some x := by
  unfold i2 at q
  split at q
  · exact ⟨_, _, _, rfl, q⟩
  · cases q
theorem l2_some {st : List Value} {g : Int64 → Int64 → List Value → Option (AF ⊕ AR)} {x : AF ⊕ AR} (q : l2 st g = some x) : ∃ a b r, st = .long b :: .long a :: r ∧ g a b r = some x := by
  unfold l2 at q
  split at q
  · exact ⟨_, _, _, rfl, q⟩
  · cases q
theorem if_so {c : Prop} {dc : Decidable c} {α : Type} {a : Option α} {x : α} (q : (if c then a else none) = some x) : c ∧ a = some x := by
  by_cases h : c
  · exact ⟨h, by rw [if_pos h] at q; exact q⟩
  · rw [if_neg h] at q; cases q
theorem jok_jmp {pc : Nat} {off : Int} (h : jok pc off = true) : (pc : Int) + off = (jmp pc off : Int) := by
  have h1 : 0 ≤ (pc : Int) + off := of_decide_eq_true h
  unfold jmp
  omega
theorem ld_int {ls : List Value} {i : Nat} {v : Value} (h : ld ls i 0 = some v) : ∃ x, v = .int x ∧ ls[i]? = some (.int x) := by
  unfold ld at h
  split at h <;> first | (cases h; exact ⟨_, rfl, by assumption⟩) | (cases h; done) | (simp_all; done)
theorem ld_ref {ls : List Value} {i : Nat} {v : Value} (h : ld ls i 1 = some v) : ∃ x, v = .ref x ∧ ls[i]? = some (.ref x) := by
  unfold ld at h
  split at h <;> first | (cases h; exact ⟨_, rfl, by assumption⟩) | (cases h; done) | (simp_all; done)
theorem ld_long {ls : List Value} {i : Nat} {v : Value} (h : ld ls i 2 = some v) : ∃ x, v = .long x ∧ ls[i]? = some (.long x) := by
  unfold ld at h
  split at h <;> first | (cases h; exact ⟨_, rfl, by assumption⟩) | (cases h; done) | (simp_all; done)
theorem st1_some {ls ls' : List Value} {i : Nat} {v : Value} (h : st1 ls i v = some ls') : ls' = ls.set i v ∧ i < ls.length ∧ ∀ q, ls[i]? ≠ some (.retAddr q) := by
  unfold st1 at h
  split at h
  · cases h
  · rename_i w hw hn
    cases h
    exact ⟨rfl, (List.getElem?_eq_some_iff.mp hn).1, fun q e => hw q (Option.some.inj (hn.symm.trans e))⟩
  · cases h
theorem st2_some {ls ls' : List Value} {i : Nat} {v : Value} (h : st2 ls i v = some ls') : ls' = (ls.set i v).set (i + 1) (.retAddr 0) ∧ i + 1 < ls.length ∧ (∀ q, ls[i]? ≠ some (.retAddr q)) ∧ ∀ q, ls[i + 1]? ≠ some (.long q) := by
  unfold st2 at h
  split at h
  · cases h
  · cases h
  · rename_i a b w1 w2 h1 h2 q1 q2
    cases h
    exact ⟨rfl, (List.getElem?_eq_some_iff.mp q2).1, fun q e => h1 q (Option.some.inj (q1.symm.trans e)), fun q e => h2 q (Option.some.inj (q2.symm.trans e))⟩
  · cases h
section SM
variable {p : Program} {l : Launch} {e : Env} {R : Room} {s : State} {m : MethodId} {args : Array Value} {below : List Frame} {meth : Method} {c : Code} {Q : State → Prop} {D : va_G} {ad dA : Nat → Nat} {sz k d : Nat} {n0 : AN} {call : Nat → List Value → AH → AN → Option AR} {pc len : Nat} {ls st : List Value} {h : AH} {nx : AN} {f : AF}

theorem sm_iconst {n : Int} (B : am_B p R s m args meth c D ad dA sz k d n0) (hd : decode (mC k) pc = .ok (.iconst n, len)) (hs : am_do call k (.iconst n) len pc ls st h nx = some (.inl f)) (kk : am_W p l e R s m args below meth c Q D ad dA sz k n0 f) : am_W p l e R s m args below meth c Q D ad dA sz k n0 (pc, ls, st, h, nx) := by
  obtain ⟨hx, hb, hml, hown, hts, hC, hin, hfr, hlo, hs0⟩ := B
  intro cls H locs cells slots hS
  obtain ⟨hl, hP, hSS, hH, hc1, hc2⟩ := id hS
  replace hs := if_so hs
  obtain ⟨rfl, hs⟩ := hs
  obtain rfl := to_inj hs
  exact lv_iconst hx hb hd rfl (kk _ _ _ _ _ hS)
theorem sm_bipush {n : Int} (B : am_B p R s m args meth c D ad dA sz k d n0) (hd : decode (mC k) pc = .ok (.bipush n, len)) (hs : am_do call k (.bipush n) len pc ls st h nx = some (.inl f)) (kk : am_W p l e R s m args below meth c Q D ad dA sz k n0 f) : am_W p l e R s m args below meth c Q D ad dA sz k n0 (pc, ls, st, h, nx) := by
  obtain ⟨hx, hb, hml, hown, hts, hC, hin, hfr, hlo, hs0⟩ := B
  intro cls H locs cells slots hS
  obtain ⟨hl, hP, hSS, hH, hc1, hc2⟩ := id hS
  replace hs := if_so hs
  obtain ⟨rfl, hs⟩ := hs
  obtain rfl := to_inj hs
  exact lv_bipush hx hb hd rfl (kk _ _ _ _ _ hS)
theorem sm_sipush {n : Int} (B : am_B p R s m args meth c D ad dA sz k d n0) (hd : decode (mC k) pc = .ok (.sipush n, len)) (hs : am_do call k (.sipush n) len pc ls st h nx = some (.inl f)) (kk : am_W p l e R s m args below meth c Q D ad dA sz k n0 f) : am_W p l e R s m args below meth c Q D ad dA sz k n0 (pc, ls, st, h, nx) := by
  obtain ⟨hx, hb, hml, hown, hts, hC, hin, hfr, hlo, hs0⟩ := B
  intro cls H locs cells slots hS
  obtain ⟨hl, hP, hSS, hH, hc1, hc2⟩ := id hS
  replace hs := if_so hs
  obtain ⟨rfl, hs⟩ := hs
  obtain rfl := to_inj hs
  exact lv_sipush hx hb hd rfl (kk _ _ _ _ _ hS)
theorem sm_lconst {n : Fin 2} (B : am_B p R s m args meth c D ad dA sz k d n0) (hd : decode (mC k) pc = .ok (.lconst n, len)) (hs : am_do call k (.lconst n) len pc ls st h nx = some (.inl f)) (kk : am_W p l e R s m args below meth c Q D ad dA sz k n0 f) : am_W p l e R s m args below meth c Q D ad dA sz k n0 (pc, ls, st, h, nx) := by
  obtain ⟨hx, hb, hml, hown, hts, hC, hin, hfr, hlo, hs0⟩ := B
  intro cls H locs cells slots hS
  obtain ⟨hl, hP, hSS, hH, hc1, hc2⟩ := id hS
  replace hs := if_so hs
  obtain ⟨rfl, hs⟩ := hs
  obtain rfl := to_inj hs
  exact lv_lconst hx hb hd rfl (kk _ _ _ _ _ hS)
theorem sm_iload_n {q : Fin 4} (B : am_B p R s m args meth c D ad dA sz k d n0) (hd : decode (mC k) pc = .ok (.iload_n q, len)) (hs : am_do call k (.iload_n q) len pc ls st h nx = some (.inl f)) (kk : am_W p l e R s m args below meth c Q D ad dA sz k n0 f) : am_W p l e R s m args below meth c Q D ad dA sz k n0 (pc, ls, st, h, nx) := by
  obtain ⟨hx, hb, hml, hown, hts, hC, hin, hfr, hlo, hs0⟩ := B
  intro cls H locs cells slots hS
  obtain ⟨hl, hP, hSS, hH, hc1, hc2⟩ := id hS
  replace hs := if_so hs
  obtain ⟨rfl, hs⟩ := hs
  split at hs
  · rename_i v hv
    obtain ⟨x, rfl, hv3⟩ := ld_int hv
    obtain rfl := to_inj hs
    have hv2 := hl.at hv3 (by rfl)
    exact lv_iload_n hx hb hd rfl hv2 (kk _ _ _ _ _ hS)
  · cases hs
theorem sm_iload {q : Nat} (B : am_B p R s m args meth c D ad dA sz k d n0) (hd : decode (mC k) pc = .ok (.iload q, len)) (hs : am_do call k (.iload q) len pc ls st h nx = some (.inl f)) (kk : am_W p l e R s m args below meth c Q D ad dA sz k n0 f) : am_W p l e R s m args below meth c Q D ad dA sz k n0 (pc, ls, st, h, nx) := by
  obtain ⟨hx, hb, hml, hown, hts, hC, hin, hfr, hlo, hs0⟩ := B
  intro cls H locs cells slots hS
  obtain ⟨hl, hP, hSS, hH, hc1, hc2⟩ := id hS
  replace hs := if_so hs
  obtain ⟨rfl, hs⟩ := hs
  split at hs
  · rename_i v hv
    obtain ⟨x, rfl, hv3⟩ := ld_int hv
    obtain rfl := to_inj hs
    have hv2 := hl.at hv3 (by rfl)
    exact lv_iload hx hb hd hv2 (kk _ _ _ _ _ hS)
  · cases hs
theorem sm_aload_n {q : Fin 4} (B : am_B p R s m args meth c D ad dA sz k d n0) (hd : decode (mC k) pc = .ok (.aload_n q, len)) (hs : am_do call k (.aload_n q) len pc ls st h nx = some (.inl f)) (kk : am_W p l e R s m args below meth c Q D ad dA sz k n0 f) : am_W p l e R s m args below meth c Q D ad dA sz k n0 (pc, ls, st, h, nx) := by
  obtain ⟨hx, hb, hml, hown, hts, hC, hin, hfr, hlo, hs0⟩ := B
  intro cls H locs cells slots hS
  obtain ⟨hl, hP, hSS, hH, hc1, hc2⟩ := id hS
  replace hs := if_so hs
  obtain ⟨rfl, hs⟩ := hs
  split at hs
  · rename_i v hv
    obtain ⟨x, rfl, hv3⟩ := ld_ref hv
    obtain rfl := to_inj hs
    have hv2 := hl.at hv3 (by rfl)
    exact lv_aload_n hx hb hd rfl hv2 (kk _ _ _ _ _ hS)
  · cases hs
theorem sm_aload {q : Nat} (B : am_B p R s m args meth c D ad dA sz k d n0) (hd : decode (mC k) pc = .ok (.aload q, len)) (hs : am_do call k (.aload q) len pc ls st h nx = some (.inl f)) (kk : am_W p l e R s m args below meth c Q D ad dA sz k n0 f) : am_W p l e R s m args below meth c Q D ad dA sz k n0 (pc, ls, st, h, nx) := by
  obtain ⟨hx, hb, hml, hown, hts, hC, hin, hfr, hlo, hs0⟩ := B
  intro cls H locs cells slots hS
  obtain ⟨hl, hP, hSS, hH, hc1, hc2⟩ := id hS
  replace hs := if_so hs
  obtain ⟨rfl, hs⟩ := hs
  split at hs
  · rename_i v hv
    obtain ⟨x, rfl, hv3⟩ := ld_ref hv
    obtain rfl := to_inj hs
    have hv2 := hl.at hv3 (by rfl)
    exact lv_aload hx hb hd hv2 (kk _ _ _ _ _ hS)
  · cases hs
theorem sm_lload {q : Nat} (B : am_B p R s m args meth c D ad dA sz k d n0) (hd : decode (mC k) pc = .ok (.lload q, len)) (hs : am_do call k (.lload q) len pc ls st h nx = some (.inl f)) (kk : am_W p l e R s m args below meth c Q D ad dA sz k n0 f) : am_W p l e R s m args below meth c Q D ad dA sz k n0 (pc, ls, st, h, nx) := by
  obtain ⟨hx, hb, hml, hown, hts, hC, hin, hfr, hlo, hs0⟩ := B
  intro cls H locs cells slots hS
  obtain ⟨hl, hP, hSS, hH, hc1, hc2⟩ := id hS
  replace hs := if_so hs
  obtain ⟨rfl, hs⟩ := hs
  split at hs
  · rename_i v hv
    obtain ⟨x, rfl, hv3⟩ := ld_long hv
    obtain rfl := to_inj hs
    have hv2 := hl.at hv3 (by rfl)
    exact lv_lload hx hb hd hv2 (kk _ _ _ _ _ hS)
  · cases hs
theorem sm_istore_n {q : Fin 4} (B : am_B p R s m args meth c D ad dA sz k d n0) (hd : decode (mC k) pc = .ok (.istore_n q, len)) (hs : am_do call k (.istore_n q) len pc ls st h nx = some (.inl f)) (kk : am_W p l e R s m args below meth c Q D ad dA sz k n0 f) : am_W p l e R s m args below meth c Q D ad dA sz k n0 (pc, ls, st, h, nx) := by
  obtain ⟨hx, hb, hml, hown, hts, hC, hin, hfr, hlo, hs0⟩ := B
  intro cls H locs cells slots hS
  obtain ⟨hl, hP, hSS, hH, hc1, hc2⟩ := id hS
  replace hs := if_so hs
  obtain ⟨rfl, hs⟩ := hs
  replace hs := i1_some hs
  obtain ⟨x, r, rfl, hs⟩ := hs
  split at hs
  · rename_i ls1 hv
    obtain ⟨rfl, g1, g2⟩ := st1_some hv
    obtain rfl := to_inj hs
    exact lv_istore_n hx hb hd rfl hl.has (by rw [← hl.2.2.1]; exact g1) rfl (fun cls1 h1 => kk _ _ _ _ _ ⟨hl.put1 (by rw [← hl.2.2.1]; exact g1) rfl g2 h1, hP, hSS, hH, hc1, hc2⟩)
  · cases hs
theorem sm_istore {q : Nat} (B : am_B p R s m args meth c D ad dA sz k d n0) (hd : decode (mC k) pc = .ok (.istore q, len)) (hs : am_do call k (.istore q) len pc ls st h nx = some (.inl f)) (kk : am_W p l e R s m args below meth c Q D ad dA sz k n0 f) : am_W p l e R s m args below meth c Q D ad dA sz k n0 (pc, ls, st, h, nx) := by
  obtain ⟨hx, hb, hml, hown, hts, hC, hin, hfr, hlo, hs0⟩ := B
  intro cls H locs cells slots hS
  obtain ⟨hl, hP, hSS, hH, hc1, hc2⟩ := id hS
  replace hs := if_so hs
  obtain ⟨rfl, hs⟩ := hs
  replace hs := i1_some hs
  obtain ⟨x, r, rfl, hs⟩ := hs
  split at hs
  · rename_i ls1 hv
    obtain ⟨rfl, g1, g2⟩ := st1_some hv
    obtain rfl := to_inj hs
    exact lv_istore hx hb hd hl.has (by rw [← hl.2.2.1]; exact g1) rfl (fun cls1 h1 => kk _ _ _ _ _ ⟨hl.put1 (by rw [← hl.2.2.1]; exact g1) rfl g2 h1, hP, hSS, hH, hc1, hc2⟩)
  · cases hs
theorem sm_astore_n {q : Fin 4} (B : am_B p R s m args meth c D ad dA sz k d n0) (hd : decode (mC k) pc = .ok (.astore_n q, len)) (hs : am_do call k (.astore_n q) len pc ls st h nx = some (.inl f)) (kk : am_W p l e R s m args below meth c Q D ad dA sz k n0 f) : am_W p l e R s m args below meth c Q D ad dA sz k n0 (pc, ls, st, h, nx) := by
  obtain ⟨hx, hb, hml, hown, hts, hC, hin, hfr, hlo, hs0⟩ := B
  intro cls H locs cells slots hS
  obtain ⟨hl, hP, hSS, hH, hc1, hc2⟩ := id hS
  replace hs := if_so hs
  obtain ⟨rfl, hs⟩ := hs
  split at hs
  · rename_i x r
    split at hs
    · rename_i ls1 hv
      obtain ⟨rfl, g1, g2⟩ := st1_some hv
      obtain rfl := to_inj hs
      exact lv_astore_n hx hb hd rfl hl.has (by rw [← hl.2.2.1]; exact g1) rfl (fun cls1 h1 => kk _ _ _ _ _ ⟨hl.put1 (by rw [← hl.2.2.1]; exact g1) rfl g2 h1, hP, hSS, hH, hc1, hc2⟩)
    · cases hs
  · cases hs
theorem sm_astore {q : Nat} (B : am_B p R s m args meth c D ad dA sz k d n0) (hd : decode (mC k) pc = .ok (.astore q, len)) (hs : am_do call k (.astore q) len pc ls st h nx = some (.inl f)) (kk : am_W p l e R s m args below meth c Q D ad dA sz k n0 f) : am_W p l e R s m args below meth c Q D ad dA sz k n0 (pc, ls, st, h, nx) := by
  obtain ⟨hx, hb, hml, hown, hts, hC, hin, hfr, hlo, hs0⟩ := B
  intro cls H locs cells slots hS
  obtain ⟨hl, hP, hSS, hH, hc1, hc2⟩ := id hS
  replace hs := if_so hs
  obtain ⟨rfl, hs⟩ := hs
  split at hs
  · rename_i x r
    split at hs
    · rename_i ls1 hv
      obtain ⟨rfl, g1, g2⟩ := st1_some hv
      obtain rfl := to_inj hs
      exact lv_astore hx hb hd hl.has (by rw [← hl.2.2.1]; exact g1) rfl (fun cls1 h1 => kk _ _ _ _ _ ⟨hl.put1 (by rw [← hl.2.2.1]; exact g1) rfl g2 h1, hP, hSS, hH, hc1, hc2⟩)
    · cases hs
  · cases hs
theorem sm_lstore {q : Nat} (B : am_B p R s m args meth c D ad dA sz k d n0) (hd : decode (mC k) pc = .ok (.lstore q, len)) (hs : am_do call k (.lstore q) len pc ls st h nx = some (.inl f)) (kk : am_W p l e R s m args below meth c Q D ad dA sz k n0 f) : am_W p l e R s m args below meth c Q D ad dA sz k n0 (pc, ls, st, h, nx) := by
  obtain ⟨hx, hb, hml, hown, hts, hC, hin, hfr, hlo, hs0⟩ := B
  intro cls H locs cells slots hS
  obtain ⟨hl, hP, hSS, hH, hc1, hc2⟩ := id hS
  replace hs := if_so hs
  obtain ⟨rfl, hs⟩ := hs
  split at hs
  · rename_i x r
    split at hs
    · rename_i ls1 hv
      obtain ⟨rfl, g1, g2, g3⟩ := st2_some hv
      obtain rfl := to_inj hs
      exact lv_lstore hx hb hd hl.has (by rw [← hl.2.2.1]; exact g1) rfl (fun cls1 h1 => kk _ _ _ _ _ ⟨hl.put2 (by rw [← hl.2.2.1]; exact g1) g2 g3 h1, hP, hSS, hH, hc1, hc2⟩)
    · cases hs
  · cases hs
theorem sm_iinc {q : Nat} {n : Int} (B : am_B p R s m args meth c D ad dA sz k d n0) (hd : decode (mC k) pc = .ok (.iinc q n, len)) (hs : am_do call k (.iinc q n) len pc ls st h nx = some (.inl f)) (kk : am_W p l e R s m args below meth c Q D ad dA sz k n0 f) : am_W p l e R s m args below meth c Q D ad dA sz k n0 (pc, ls, st, h, nx) := by
  obtain ⟨hx, hb, hml, hown, hts, hC, hin, hfr, hlo, hs0⟩ := B
  intro cls H locs cells slots hS
  obtain ⟨hl, hP, hSS, hH, hc1, hc2⟩ := id hS
  replace hs := if_so hs
  obtain ⟨rfl, hs⟩ := hs
  split at hs
  · rename_i x hv
    obtain rfl := to_inj hs
    obtain ⟨j, hj⟩ := List.getElem?_of_mem (am_lv_mem (ad := ad).mpr ⟨_, hv, rfl, rfl⟩)
    have g1 : q < ls.length := (List.getElem?_eq_some_iff.mp hv).1
    exact lv_iinc hx hb hd hl.has hj rfl (by rw [← hl.2.2.1]; exact g1) rfl (fun cls1 h1 => kk _ _ _ _ _ ⟨hl.put1 (by rw [← hl.2.2.1]; exact g1) rfl (fun z e => by rw [hv] at e; cases e) h1, hP, hSS, hH, hc1, hc2⟩)
  · cases hs
theorem sm_iadd  (B : am_B p R s m args meth c D ad dA sz k d n0) (hd : decode (mC k) pc = .ok (.iadd, len)) (hs : am_do call k (.iadd) len pc ls st h nx = some (.inl f)) (kk : am_W p l e R s m args below meth c Q D ad dA sz k n0 f) : am_W p l e R s m args below meth c Q D ad dA sz k n0 (pc, ls, st, h, nx) := by
  obtain ⟨hx, hb, hml, hown, hts, hC, hin, hfr, hlo, hs0⟩ := B
  intro cls H locs cells slots hS
  obtain ⟨hl, hP, hSS, hH, hc1, hc2⟩ := id hS
  replace hs := if_so hs
  obtain ⟨rfl, hs⟩ := hs
  replace hs := i2_some hs
  obtain ⟨a, b, r, rfl, hs⟩ := hs
  obtain rfl := to_inj hs
  exact lv_iadd hx hb hd (kk _ _ _ _ _ hS)
theorem sm_isub  (B : am_B p R s m args meth c D ad dA sz k d n0) (hd : decode (mC k) pc = .ok (.isub, len)) (hs : am_do call k (.isub) len pc ls st h nx = some (.inl f)) (kk : am_W p l e R s m args below meth c Q D ad dA sz k n0 f) : am_W p l e R s m args below meth c Q D ad dA sz k n0 (pc, ls, st, h, nx) := by
  obtain ⟨hx, hb, hml, hown, hts, hC, hin, hfr, hlo, hs0⟩ := B
  intro cls H locs cells slots hS
  obtain ⟨hl, hP, hSS, hH, hc1, hc2⟩ := id hS
  replace hs := if_so hs
  obtain ⟨rfl, hs⟩ := hs
  replace hs := i2_some hs
  obtain ⟨a, b, r, rfl, hs⟩ := hs
  obtain rfl := to_inj hs
  exact lv_isub hx hb hd (kk _ _ _ _ _ hS)
theorem sm_imul  (B : am_B p R s m args meth c D ad dA sz k d n0) (hd : decode (mC k) pc = .ok (.imul, len)) (hs : am_do call k (.imul) len pc ls st h nx = some (.inl f)) (kk : am_W p l e R s m args below meth c Q D ad dA sz k n0 f) : am_W p l e R s m args below meth c Q D ad dA sz k n0 (pc, ls, st, h, nx) := by
  obtain ⟨hx, hb, hml, hown, hts, hC, hin, hfr, hlo, hs0⟩ := B
  intro cls H locs cells slots hS
  obtain ⟨hl, hP, hSS, hH, hc1, hc2⟩ := id hS
  replace hs := if_so hs
  obtain ⟨rfl, hs⟩ := hs
  replace hs := i2_some hs
  obtain ⟨a, b, r, rfl, hs⟩ := hs
  obtain rfl := to_inj hs
  exact lv_imul hx hb hd (kk _ _ _ _ _ hS)
theorem sm_iand  (B : am_B p R s m args meth c D ad dA sz k d n0) (hd : decode (mC k) pc = .ok (.iand, len)) (hs : am_do call k (.iand) len pc ls st h nx = some (.inl f)) (kk : am_W p l e R s m args below meth c Q D ad dA sz k n0 f) : am_W p l e R s m args below meth c Q D ad dA sz k n0 (pc, ls, st, h, nx) := by
  obtain ⟨hx, hb, hml, hown, hts, hC, hin, hfr, hlo, hs0⟩ := B
  intro cls H locs cells slots hS
  obtain ⟨hl, hP, hSS, hH, hc1, hc2⟩ := id hS
  replace hs := if_so hs
  obtain ⟨rfl, hs⟩ := hs
  replace hs := i2_some hs
  obtain ⟨a, b, r, rfl, hs⟩ := hs
  obtain rfl := to_inj hs
  exact lv_iand hx hb hd (kk _ _ _ _ _ hS)
theorem sm_ior  (B : am_B p R s m args meth c D ad dA sz k d n0) (hd : decode (mC k) pc = .ok (.ior, len)) (hs : am_do call k (.ior) len pc ls st h nx = some (.inl f)) (kk : am_W p l e R s m args below meth c Q D ad dA sz k n0 f) : am_W p l e R s m args below meth c Q D ad dA sz k n0 (pc, ls, st, h, nx) := by
  obtain ⟨hx, hb, hml, hown, hts, hC, hin, hfr, hlo, hs0⟩ := B
  intro cls H locs cells slots hS
  obtain ⟨hl, hP, hSS, hH, hc1, hc2⟩ := id hS
  replace hs := if_so hs
  obtain ⟨rfl, hs⟩ := hs
  replace hs := i2_some hs
  obtain ⟨a, b, r, rfl, hs⟩ := hs
  obtain rfl := to_inj hs
  exact lv_ior hx hb hd (kk _ _ _ _ _ hS)
theorem sm_ixor  (B : am_B p R s m args meth c D ad dA sz k d n0) (hd : decode (mC k) pc = .ok (.ixor, len)) (hs : am_do call k (.ixor) len pc ls st h nx = some (.inl f)) (kk : am_W p l e R s m args below meth c Q D ad dA sz k n0 f) : am_W p l e R s m args below meth c Q D ad dA sz k n0 (pc, ls, st, h, nx) := by
  obtain ⟨hx, hb, hml, hown, hts, hC, hin, hfr, hlo, hs0⟩ := B
  intro cls H locs cells slots hS
  obtain ⟨hl, hP, hSS, hH, hc1, hc2⟩ := id hS
  replace hs := if_so hs
  obtain ⟨rfl, hs⟩ := hs
  replace hs := i2_some hs
  obtain ⟨a, b, r, rfl, hs⟩ := hs
  obtain rfl := to_inj hs
  exact lv_ixor hx hb hd (kk _ _ _ _ _ hS)
theorem sm_ishl  (B : am_B p R s m args meth c D ad dA sz k d n0) (hd : decode (mC k) pc = .ok (.ishl, len)) (hs : am_do call k (.ishl) len pc ls st h nx = some (.inl f)) (kk : am_W p l e R s m args below meth c Q D ad dA sz k n0 f) : am_W p l e R s m args below meth c Q D ad dA sz k n0 (pc, ls, st, h, nx) := by
  obtain ⟨hx, hb, hml, hown, hts, hC, hin, hfr, hlo, hs0⟩ := B
  intro cls H locs cells slots hS
  obtain ⟨hl, hP, hSS, hH, hc1, hc2⟩ := id hS
  replace hs := if_so hs
  obtain ⟨rfl, hs⟩ := hs
  replace hs := i2_some hs
  obtain ⟨a, b, r, rfl, hs⟩ := hs
  obtain rfl := to_inj hs
  exact lv_ishl hx hb hd (kk _ _ _ _ _ hS)
theorem sm_ishr  (B : am_B p R s m args meth c D ad dA sz k d n0) (hd : decode (mC k) pc = .ok (.ishr, len)) (hs : am_do call k (.ishr) len pc ls st h nx = some (.inl f)) (kk : am_W p l e R s m args below meth c Q D ad dA sz k n0 f) : am_W p l e R s m args below meth c Q D ad dA sz k n0 (pc, ls, st, h, nx) := by
  obtain ⟨hx, hb, hml, hown, hts, hC, hin, hfr, hlo, hs0⟩ := B
  intro cls H locs cells slots hS
  obtain ⟨hl, hP, hSS, hH, hc1, hc2⟩ := id hS
  replace hs := if_so hs
  obtain ⟨rfl, hs⟩ := hs
  replace hs := i2_some hs
  obtain ⟨a, b, r, rfl, hs⟩ := hs
  obtain rfl := to_inj hs
  exact lv_ishr hx hb hd (kk _ _ _ _ _ hS)
theorem sm_iushr  (B : am_B p R s m args meth c D ad dA sz k d n0) (hd : decode (mC k) pc = .ok (.iushr, len)) (hs : am_do call k (.iushr) len pc ls st h nx = some (.inl f)) (kk : am_W p l e R s m args below meth c Q D ad dA sz k n0 f) : am_W p l e R s m args below meth c Q D ad dA sz k n0 (pc, ls, st, h, nx) := by
  obtain ⟨hx, hb, hml, hown, hts, hC, hin, hfr, hlo, hs0⟩ := B
  intro cls H locs cells slots hS
  obtain ⟨hl, hP, hSS, hH, hc1, hc2⟩ := id hS
  replace hs := if_so hs
  obtain ⟨rfl, hs⟩ := hs
  replace hs := i2_some hs
  obtain ⟨a, b, r, rfl, hs⟩ := hs
  obtain rfl := to_inj hs
  exact lv_iushr hx hb hd rfl (kk _ _ _ _ _ hS)
theorem sm_idiv  (B : am_B p R s m args meth c D ad dA sz k d n0) (hd : decode (mC k) pc = .ok (.idiv, len)) (hs : am_do call k (.idiv) len pc ls st h nx = some (.inl f)) (kk : am_W p l e R s m args below meth c Q D ad dA sz k n0 f) : am_W p l e R s m args below meth c Q D ad dA sz k n0 (pc, ls, st, h, nx) := by
  obtain ⟨hx, hb, hml, hown, hts, hC, hin, hfr, hlo, hs0⟩ := B
  intro cls H locs cells slots hS
  obtain ⟨hl, hP, hSS, hH, hc1, hc2⟩ := id hS
  replace hs := if_so hs
  obtain ⟨rfl, hs⟩ := hs
  replace hs := i2_some hs
  obtain ⟨a, b, r, rfl, hs⟩ := hs
  split at hs
  · cases hs
  · rename_i hne
    obtain rfl := to_inj hs
    exact lv_idiv hx hb hd hne (kk _ _ _ _ _ hS)
theorem sm_irem  (B : am_B p R s m args meth c D ad dA sz k d n0) (hd : decode (mC k) pc = .ok (.irem, len)) (hs : am_do call k (.irem) len pc ls st h nx = some (.inl f)) (kk : am_W p l e R s m args below meth c Q D ad dA sz k n0 f) : am_W p l e R s m args below meth c Q D ad dA sz k n0 (pc, ls, st, h, nx) := by
  obtain ⟨hx, hb, hml, hown, hts, hC, hin, hfr, hlo, hs0⟩ := B
  intro cls H locs cells slots hS
  obtain ⟨hl, hP, hSS, hH, hc1, hc2⟩ := id hS
  replace hs := if_so hs
  obtain ⟨rfl, hs⟩ := hs
  replace hs := i2_some hs
  obtain ⟨a, b, r, rfl, hs⟩ := hs
  split at hs
  · cases hs
  · rename_i hne
    obtain rfl := to_inj hs
    exact lv_irem hx hb hd hne (kk _ _ _ _ _ hS)
theorem sm_ineg  (B : am_B p R s m args meth c D ad dA sz k d n0) (hd : decode (mC k) pc = .ok (.ineg, len)) (hs : am_do call k (.ineg) len pc ls st h nx = some (.inl f)) (kk : am_W p l e R s m args below meth c Q D ad dA sz k n0 f) : am_W p l e R s m args below meth c Q D ad dA sz k n0 (pc, ls, st, h, nx) := by
  obtain ⟨hx, hb, hml, hown, hts, hC, hin, hfr, hlo, hs0⟩ := B
  intro cls H locs cells slots hS
  obtain ⟨hl, hP, hSS, hH, hc1, hc2⟩ := id hS
  replace hs := if_so hs
  obtain ⟨rfl, hs⟩ := hs
  replace hs := i1_some hs
  obtain ⟨a, r, rfl, hs⟩ := hs
  obtain rfl := to_inj hs
  exact lv_ineg hx hb hd (kk _ _ _ _ _ hS)
theorem sm_i2l  (B : am_B p R s m args meth c D ad dA sz k d n0) (hd : decode (mC k) pc = .ok (.i2l, len)) (hs : am_do call k (.i2l) len pc ls st h nx = some (.inl f)) (kk : am_W p l e R s m args below meth c Q D ad dA sz k n0 f) : am_W p l e R s m args below meth c Q D ad dA sz k n0 (pc, ls, st, h, nx) := by
  obtain ⟨hx, hb, hml, hown, hts, hC, hin, hfr, hlo, hs0⟩ := B
  intro cls H locs cells slots hS
  obtain ⟨hl, hP, hSS, hH, hc1, hc2⟩ := id hS
  replace hs := if_so hs
  obtain ⟨rfl, hs⟩ := hs
  replace hs := i1_some hs
  obtain ⟨a, r, rfl, hs⟩ := hs
  obtain rfl := to_inj hs
  exact lv_i2l hx hb hd rfl (kk _ _ _ _ _ hS)
theorem sm_i2s  (B : am_B p R s m args meth c D ad dA sz k d n0) (hd : decode (mC k) pc = .ok (.i2s, len)) (hs : am_do call k (.i2s) len pc ls st h nx = some (.inl f)) (kk : am_W p l e R s m args below meth c Q D ad dA sz k n0 f) : am_W p l e R s m args below meth c Q D ad dA sz k n0 (pc, ls, st, h, nx) := by
  obtain ⟨hx, hb, hml, hown, hts, hC, hin, hfr, hlo, hs0⟩ := B
  intro cls H locs cells slots hS
  obtain ⟨hl, hP, hSS, hH, hc1, hc2⟩ := id hS
  replace hs := if_so hs
  obtain ⟨rfl, hs⟩ := hs
  replace hs := i1_some hs
  obtain ⟨a, r, rfl, hs⟩ := hs
  obtain rfl := to_inj hs
  exact lv_i2s hx hb hd rfl (kk _ _ _ _ _ hS)
theorem sm_l2i  (B : am_B p R s m args meth c D ad dA sz k d n0) (hd : decode (mC k) pc = .ok (.l2i, len)) (hs : am_do call k (.l2i) len pc ls st h nx = some (.inl f)) (kk : am_W p l e R s m args below meth c Q D ad dA sz k n0 f) : am_W p l e R s m args below meth c Q D ad dA sz k n0 (pc, ls, st, h, nx) := by
  obtain ⟨hx, hb, hml, hown, hts, hC, hin, hfr, hlo, hs0⟩ := B
  intro cls H locs cells slots hS
  obtain ⟨hl, hP, hSS, hH, hc1, hc2⟩ := id hS
  replace hs := if_so hs
  obtain ⟨rfl, hs⟩ := hs
  split at hs
  · obtain rfl := to_inj hs
    exact lv_l2i hx hb hd rfl (kk _ _ _ _ _ hS)
  · cases hs
theorem sm_lneg  (B : am_B p R s m args meth c D ad dA sz k d n0) (hd : decode (mC k) pc = .ok (.lneg, len)) (hs : am_do call k (.lneg) len pc ls st h nx = some (.inl f)) (kk : am_W p l e R s m args below meth c Q D ad dA sz k n0 f) : am_W p l e R s m args below meth c Q D ad dA sz k n0 (pc, ls, st, h, nx) := by
  obtain ⟨hx, hb, hml, hown, hts, hC, hin, hfr, hlo, hs0⟩ := B
  intro cls H locs cells slots hS
  obtain ⟨hl, hP, hSS, hH, hc1, hc2⟩ := id hS
  replace hs := if_so hs
  obtain ⟨rfl, hs⟩ := hs
  split at hs
  · obtain rfl := to_inj hs
    exact lv_lneg hx hb hd (kk _ _ _ _ _ hS)
  · cases hs
theorem sm_ladd  (B : am_B p R s m args meth c D ad dA sz k d n0) (hd : decode (mC k) pc = .ok (.ladd, len)) (hs : am_do call k (.ladd) len pc ls st h nx = some (.inl f)) (kk : am_W p l e R s m args below meth c Q D ad dA sz k n0 f) : am_W p l e R s m args below meth c Q D ad dA sz k n0 (pc, ls, st, h, nx) := by
  obtain ⟨hx, hb, hml, hown, hts, hC, hin, hfr, hlo, hs0⟩ := B
  intro cls H locs cells slots hS
  obtain ⟨hl, hP, hSS, hH, hc1, hc2⟩ := id hS
  replace hs := if_so hs
  obtain ⟨rfl, hs⟩ := hs
  replace hs := l2_some hs
  obtain ⟨a, b, r, rfl, hs⟩ := hs
  obtain rfl := to_inj hs
  exact lv_ladd hx hb hd (kk _ _ _ _ _ hS)
theorem sm_lsub  (B : am_B p R s m args meth c D ad dA sz k d n0) (hd : decode (mC k) pc = .ok (.lsub, len)) (hs : am_do call k (.lsub) len pc ls st h nx = some (.inl f)) (kk : am_W p l e R s m args below meth c Q D ad dA sz k n0 f) : am_W p l e R s m args below meth c Q D ad dA sz k n0 (pc, ls, st, h, nx) := by
  obtain ⟨hx, hb, hml, hown, hts, hC, hin, hfr, hlo, hs0⟩ := B
  intro cls H locs cells slots hS
  obtain ⟨hl, hP, hSS, hH, hc1, hc2⟩ := id hS
  replace hs := if_so hs
  obtain ⟨rfl, hs⟩ := hs
  replace hs := l2_some hs
  obtain ⟨a, b, r, rfl, hs⟩ := hs
  obtain rfl := to_inj hs
  exact lv_lsub hx hb hd (kk _ _ _ _ _ hS)
theorem sm_lcmp  (B : am_B p R s m args meth c D ad dA sz k d n0) (hd : decode (mC k) pc = .ok (.lcmp, len)) (hs : am_do call k (.lcmp) len pc ls st h nx = some (.inl f)) (kk : am_W p l e R s m args below meth c Q D ad dA sz k n0 f) : am_W p l e R s m args below meth c Q D ad dA sz k n0 (pc, ls, st, h, nx) := by
  obtain ⟨hx, hb, hml, hown, hts, hC, hin, hfr, hlo, hs0⟩ := B
  intro cls H locs cells slots hS
  obtain ⟨hl, hP, hSS, hH, hc1, hc2⟩ := id hS
  replace hs := if_so hs
  obtain ⟨rfl, hs⟩ := hs
  replace hs := l2_some hs
  obtain ⟨a, b, r, rfl, hs⟩ := hs
  obtain rfl := to_inj hs
  exact W.lcmp hx hb hd (kk _ _ _ _ _ hS)
theorem sm_dup  (B : am_B p R s m args meth c D ad dA sz k d n0) (hd : decode (mC k) pc = .ok (.dup, len)) (hs : am_do call k (.dup) len pc ls st h nx = some (.inl f)) (kk : am_W p l e R s m args below meth c Q D ad dA sz k n0 f) : am_W p l e R s m args below meth c Q D ad dA sz k n0 (pc, ls, st, h, nx) := by
  obtain ⟨hx, hb, hml, hown, hts, hC, hin, hfr, hlo, hs0⟩ := B
  intro cls H locs cells slots hS
  obtain ⟨hl, hP, hSS, hH, hc1, hc2⟩ := id hS
  replace hs := if_so hs
  obtain ⟨rfl, hs⟩ := hs
  split at hs
  · replace hs := if_so hs
    obtain ⟨hv, hs⟩ := hs
    obtain rfl := to_inj hs
    exact lv_dup hx hb hd (by rw [sv_cat]; exact hv) (kk _ _ _ _ _ hS)
  · cases hs
theorem sm_pop  (B : am_B p R s m args meth c D ad dA sz k d n0) (hd : decode (mC k) pc = .ok (.pop, len)) (hs : am_do call k (.pop) len pc ls st h nx = some (.inl f)) (kk : am_W p l e R s m args below meth c Q D ad dA sz k n0 f) : am_W p l e R s m args below meth c Q D ad dA sz k n0 (pc, ls, st, h, nx) := by
  obtain ⟨hx, hb, hml, hown, hts, hC, hin, hfr, hlo, hs0⟩ := B
  intro cls H locs cells slots hS
  obtain ⟨hl, hP, hSS, hH, hc1, hc2⟩ := id hS
  replace hs := if_so hs
  obtain ⟨rfl, hs⟩ := hs
  split at hs
  · replace hs := if_so hs
    obtain ⟨hv, hs⟩ := hs
    obtain rfl := to_inj hs
    exact lv_pop hx hb hd (by rw [sv_cat]; exact hv) (kk _ _ _ _ _ hS)
  · cases hs
theorem sm_dup2  (B : am_B p R s m args meth c D ad dA sz k d n0) (hd : decode (mC k) pc = .ok (.dup2, len)) (hs : am_do call k (.dup2) len pc ls st h nx = some (.inl f)) (kk : am_W p l e R s m args below meth c Q D ad dA sz k n0 f) : am_W p l e R s m args below meth c Q D ad dA sz k n0 (pc, ls, st, h, nx) := by
  obtain ⟨hx, hb, hml, hown, hts, hC, hin, hfr, hlo, hs0⟩ := B
  intro cls H locs cells slots hS
  obtain ⟨hl, hP, hSS, hH, hc1, hc2⟩ := id hS
  replace hs := if_so hs
  obtain ⟨rfl, hs⟩ := hs
  split at hs
  · replace hs := if_so hs
    obtain ⟨hv, hs⟩ := hs
    obtain rfl := to_inj hs
    exact lv_dup2_11 hx hb hd (by rw [sv_cat]; exact hv.1) (by rw [sv_cat]; exact hv.2) (kk _ _ _ _ _ hS)
  · cases hs
theorem sm_goto {off : Int} (B : am_B p R s m args meth c D ad dA sz k d n0) (hd : decode (mC k) pc = .ok (.goto off, len)) (hs : am_do call k (.goto off) len pc ls st h nx = some (.inl f)) (kk : am_W p l e R s m args below meth c Q D ad dA sz k n0 f) : am_W p l e R s m args below meth c Q D ad dA sz k n0 (pc, ls, st, h, nx) := by
  obtain ⟨hx, hb, hml, hown, hts, hC, hin, hfr, hlo, hs0⟩ := B
  intro cls H locs cells slots hS
  obtain ⟨hl, hP, hSS, hH, hc1, hc2⟩ := id hS
  replace hs := if_so hs
  obtain ⟨rfl, hs⟩ := hs
  replace hs := if_so hs
  obtain ⟨hj, hs⟩ := hs
  obtain rfl := to_inj hs
  exact lv_goto hx hb hd (jok_jmp hj) (kk _ _ _ _ _ hS)
theorem sm_ifCond {cd : Jvm.ClassFile.Cond} {off : Int} (B : am_B p R s m args meth c D ad dA sz k d n0) (hd : decode (mC k) pc = .ok (.ifCond cd off, len)) (hs : am_do call k (.ifCond cd off) len pc ls st h nx = some (.inl f)) (kk : am_W p l e R s m args below meth c Q D ad dA sz k n0 f) : am_W p l e R s m args below meth c Q D ad dA sz k n0 (pc, ls, st, h, nx) := by
  obtain ⟨hx, hb, hml, hown, hts, hC, hin, hfr, hlo, hs0⟩ := B
  intro cls H locs cells slots hS
  obtain ⟨hl, hP, hSS, hH, hc1, hc2⟩ := id hS
  replace hs := if_so hs
  obtain ⟨rfl, hs⟩ := hs
  replace hs := i1_some hs
  obtain ⟨a, r, rfl, hs⟩ := hs
  cases cd with
  | eq =>
    replace hs := if_so hs
    obtain ⟨hj, hs⟩ := hs
    refine lv_if_eq hx hb hd (jok_jmp hj) (fun hc => ?_) (fun hc => ?_)
    · rw [if_pos hc] at hs
      obtain rfl := to_inj hs
      exact kk _ _ _ _ _ hS
    · rw [if_neg hc] at hs
      obtain rfl := to_inj hs
      exact kk _ _ _ _ _ hS
  | ne =>
    replace hs := if_so hs
    obtain ⟨hj, hs⟩ := hs
    refine lv_if_ne hx hb hd (jok_jmp hj) (fun hc => ?_) (fun hc => ?_)
    · rw [if_pos hc] at hs
      obtain rfl := to_inj hs
      exact kk _ _ _ _ _ hS
    · rw [if_neg (fun z => z hc)] at hs
      obtain rfl := to_inj hs
      exact kk _ _ _ _ _ hS
  | lt =>
    replace hs := if_so hs
    obtain ⟨hj, hs⟩ := hs
    refine lv_if_lt hx hb hd (jok_jmp hj) (fun hc => ?_) (fun hc => ?_)
    · rw [if_pos hc] at hs
      obtain rfl := to_inj hs
      exact kk _ _ _ _ _ hS
    · rw [if_neg hc] at hs
      obtain rfl := to_inj hs
      exact kk _ _ _ _ _ hS
  | ge =>
    replace hs := if_so hs
    obtain ⟨hj, hs⟩ := hs
    refine lv_if_ge hx hb hd (jok_jmp hj) (fun hc => ?_) (fun hc => ?_)
    · rw [if_pos hc] at hs
      obtain rfl := to_inj hs
      exact kk _ _ _ _ _ hS
    · rw [if_neg hc] at hs
      obtain rfl := to_inj hs
      exact kk _ _ _ _ _ hS
  | gt =>
    replace hs := if_so hs
    obtain ⟨hj, hs⟩ := hs
    refine lv_if_gt hx hb hd (jok_jmp hj) (fun hc => ?_) (fun hc => ?_)
    · rw [if_pos hc] at hs
      obtain rfl := to_inj hs
      exact kk _ _ _ _ _ hS
    · rw [if_neg hc] at hs
      obtain rfl := to_inj hs
      exact kk _ _ _ _ _ hS
  | le =>
    replace hs := if_so hs
    obtain ⟨hj, hs⟩ := hs
    refine lv_if_le hx hb hd (jok_jmp hj) (fun hc => ?_) (fun hc => ?_)
    · rw [if_pos hc] at hs
      obtain rfl := to_inj hs
      exact kk _ _ _ _ _ hS
    · rw [if_neg hc] at hs
      obtain rfl := to_inj hs
      exact kk _ _ _ _ _ hS
theorem sm_if_icmp {cd : Jvm.ClassFile.Cond} {off : Int} (B : am_B p R s m args meth c D ad dA sz k d n0) (hd : decode (mC k) pc = .ok (.if_icmp cd off, len)) (hs : am_do call k (.if_icmp cd off) len pc ls st h nx = some (.inl f)) (kk : am_W p l e R s m args below meth c Q D ad dA sz k n0 f) : am_W p l e R s m args below meth c Q D ad dA sz k n0 (pc, ls, st, h, nx) := by
  obtain ⟨hx, hb, hml, hown, hts, hC, hin, hfr, hlo, hs0⟩ := B
  intro cls H locs cells slots hS
  obtain ⟨hl, hP, hSS, hH, hc1, hc2⟩ := id hS
  replace hs := if_so hs
  obtain ⟨rfl, hs⟩ := hs
  replace hs := i2_some hs
  obtain ⟨a, b, r, rfl, hs⟩ := hs
  cases cd with
  | eq =>
    replace hs := if_so hs
    obtain ⟨hj, hs⟩ := hs
    refine lv_icmp_eq hx hb hd (jok_jmp hj) (fun hc => ?_) (fun hc => ?_)
    · rw [if_pos hc] at hs
      obtain rfl := to_inj hs
      exact kk _ _ _ _ _ hS
    · rw [if_neg hc] at hs
      obtain rfl := to_inj hs
      exact kk _ _ _ _ _ hS
  | ne =>
    replace hs := if_so hs
    obtain ⟨hj, hs⟩ := hs
    refine lv_icmp_ne hx hb hd (jok_jmp hj) (fun hc => ?_) (fun hc => ?_)
    · rw [if_pos hc] at hs
      obtain rfl := to_inj hs
      exact kk _ _ _ _ _ hS
    · rw [if_neg (fun z => z hc)] at hs
      obtain rfl := to_inj hs
      exact kk _ _ _ _ _ hS
  | lt =>
    replace hs := if_so hs
    obtain ⟨hj, hs⟩ := hs
    refine lv_icmp_lt hx hb hd (jok_jmp hj) (fun hc => ?_) (fun hc => ?_)
    · rw [if_pos hc] at hs
      obtain rfl := to_inj hs
      exact kk _ _ _ _ _ hS
    · rw [if_neg hc] at hs
      obtain rfl := to_inj hs
      exact kk _ _ _ _ _ hS
  | ge =>
    replace hs := if_so hs
    obtain ⟨hj, hs⟩ := hs
    refine lv_icmp_ge hx hb hd (jok_jmp hj) (fun hc => ?_) (fun hc => ?_)
    · rw [if_pos hc] at hs
      obtain rfl := to_inj hs
      exact kk _ _ _ _ _ hS
    · rw [if_neg hc] at hs
      obtain rfl := to_inj hs
      exact kk _ _ _ _ _ hS
  | gt =>
    replace hs := if_so hs
    obtain ⟨hj, hs⟩ := hs
    refine lv_icmp_gt hx hb hd (jok_jmp hj) (fun hc => ?_) (fun hc => ?_)
    · rw [if_pos hc] at hs
      obtain rfl := to_inj hs
      exact kk _ _ _ _ _ hS
    · rw [if_neg hc] at hs
      obtain rfl := to_inj hs
      exact kk _ _ _ _ _ hS
  | le =>
    replace hs := if_so hs
    obtain ⟨hj, hs⟩ := hs
    refine lv_icmp_le hx hb hd (jok_jmp hj) (fun hc => ?_) (fun hc => ?_)
    · rw [if_pos hc] at hs
      obtain rfl := to_inj hs
      exact kk _ _ _ _ _ hS
    · rw [if_neg hc] at hs
      obtain rfl := to_inj hs
      exact kk _ _ _ _ _ hS
theorem sm_tableswitch {dflt lo hi : Int} {offs : Array Int} (B : am_B p R s m args meth c D ad dA sz k d n0) (hd : decode (mC k) pc = .ok (.tableswitch dflt lo hi offs, len)) (hs : am_do call k (.tableswitch dflt lo hi offs) len pc ls st h nx = some (.inl f)) (kk : am_W p l e R s m args below meth c Q D ad dA sz k n0 f) : am_W p l e R s m args below meth c Q D ad dA sz k n0 (pc, ls, st, h, nx) := by
  obtain ⟨hx, hb, hml, hown, hts, hC, hin, hfr, hlo, hs0⟩ := B
  intro cls H locs cells slots hS
  obtain ⟨hl, hP, hSS, hH, hc1, hc2⟩ := id hS
  replace hs := i1_some hs
  obtain ⟨a, r, rfl, hs⟩ := hs
  split at hs
  · rename_i hc
    replace hs := if_so hs
    obtain ⟨hj, hs⟩ := hs
    obtain rfl := to_inj hs
    exact lv_tableOut hx hb hd hc (jok_jmp hj) (kk _ _ _ _ _ hS)
  · rename_i hc
    unfold swt at hs
    split at hs
    · rename_i off ho
      replace hs := if_so hs
      obtain ⟨hj, hs⟩ := hs
      obtain rfl := to_inj hs
      exact lv_tableIn hx hb hd (fun z => hc (Or.inl z)) (fun z => hc (Or.inr z)) ho (jok_jmp hj) (kk _ _ _ _ _ hS)
    · cases hs
theorem sm_lookupswitch {dflt : Int} {ps : Array (Int × Int)} (B : am_B p R s m args meth c D ad dA sz k d n0) (hd : decode (mC k) pc = .ok (.lookupswitch dflt ps, len)) (hs : am_do call k (.lookupswitch dflt ps) len pc ls st h nx = some (.inl f)) (kk : am_W p l e R s m args below meth c Q D ad dA sz k n0 f) : am_W p l e R s m args below meth c Q D ad dA sz k n0 (pc, ls, st, h, nx) := by
  obtain ⟨hx, hb, hml, hown, hts, hC, hin, hfr, hlo, hs0⟩ := B
  intro cls H locs cells slots hS
  obtain ⟨hl, hP, hSS, hH, hc1, hc2⟩ := id hS
  replace hs := if_so hs
  obtain ⟨hp, hs⟩ := hs
  replace hs := i1_some hs
  obtain ⟨a, r, rfl, hs⟩ := hs
  replace hs := if_so hs
  obtain ⟨hj, hs⟩ := hs
  obtain rfl := to_inj hs
  exact lv_lookup hx hb hd hp rfl (jok_jmp hj) (kk _ _ _ _ _ hS)
end SM
end
section
theorem lkF_spec {o i ci f : Nat} (h : lkF o i = some (ci, f)) : (∃ j : Nat, lwa (j) = some (.fieldLink (oN o) i (cT ci f).1 (cT ci f).2.1 (cT ci f).2.2.1)) ∧ ci < 10 ∧ f < cN ci := by
  unfold lkF at h
  cases hf : tF.find? fun e => e.1 == o && e.2.1 == i with
  | none => rw [hf] at h; cases h
  | some x =>
    obtain ⟨a, b, ci', f', j⟩ := x
    rw [hf] at h
    cases h
    have h1 := List.find?_some hf
    have h2 := List.all_eq_true.mp tF_ok _ (List.mem_of_find?_eq_some hf)
    simp only [Bool.and_eq_true, beq_iff_eq] at h1
    simp only [tF_ck, Bool.and_eq_true, decide_eq_true_eq] at h2
    obtain ⟨rfl, rfl⟩ := h1
    exact ⟨⟨j, h2.1.1⟩, h2.1.2, h2.2⟩
theorem lkC_spec {o i ci : Nat} (h : lkC o i = some ci) : (∃ j : Nat, lwa (j) = some (.classLink (oN o) i (oN ci))) ∧ (∃ j : Nat, lwa (j) = some (.instantiable (oN ci) (cN ci))) ∧ (∃ j : Nat, lwa (j) = some (.initialized (oN ci))) ∧ ci < 10 := by
  unfold lkC at h
  cases hf : tC.find? fun e => e.1 == o && e.2.1 == i with
  | none => rw [hf] at h; cases h
  | some x =>
    obtain ⟨a, b, ci', j1, j2, j3⟩ := x
    rw [hf] at h
    cases h
    have h1 := List.find?_some hf
    have h2 := List.all_eq_true.mp tC_ok _ (List.mem_of_find?_eq_some hf)
    simp only [Bool.and_eq_true, beq_iff_eq] at h1
    simp only [tC_ck, Bool.and_eq_true, decide_eq_true_eq] at h2
    obtain ⟨rfl, rfl⟩ := h1
    exact ⟨⟨j1, h2.1.1.1⟩, ⟨j2, h2.1.1.2⟩, ⟨j3, h2.1.2⟩, h2.2⟩
theorem lkK_spec {o i : Nat} {v : Int32} (h : lkK o i = some v) : ∃ j : Nat, lwa (j) = some (.constant (oN o) i v) := by
  unfold lkK at h
  cases hf : tK.find? fun e => e.1 == o && e.2.1 == i with
  | none => rw [hf] at h; cases h
  | some x =>
    obtain ⟨a, b, v', j⟩ := x
    rw [hf] at h
    cases h
    have h1 := List.find?_some hf
    have h2 := List.all_eq_true.mp tK_ok _ (List.mem_of_find?_eq_some hf)
    simp only [Bool.and_eq_true, beq_iff_eq] at h1
    simp only [tK_ck, decide_eq_true_eq] at h2
    obtain ⟨rfl, rfl⟩ := h1
    exact ⟨j, h2⟩
theorem cls_in {ci : Nat} (h : ci < 10) : ∀ w ∈ u_ws (oN ci) (cT ci) (cN ci), w ∈ gw := by
  intro w hw
  unfold u_ws at hw
  obtain ⟨f, hf, rfl⟩ := List.mem_map.mp hw
  have h1 := List.all_eq_true.mp (List.all_eq_true.mp cls_ok ci (List.mem_range.mpr h)) f hf
  simp only [Bool.and_eq_true, decide_eq_true_eq] at h1
  exact gw_at h1.1 h1.2
theorem cY_at {ci f : Nat} (h : ci < 10) (hf : f < cN ci) : parseFieldDescriptor (cT ci f).2.2.1 = some (cY ci f) := by
  have h1 := List.all_eq_true.mp (List.all_eq_true.mp cY_ok ci (List.mem_range.mpr h)) f (List.mem_range.mpr hf)
  simpa using h1
theorem nm_at {ci : Nat} (h : ci < 10) : ∀ a, a < cN ci → ∀ b, b < cN ci → a ≠ b → (cT ci a).2.1 ≠ (cT ci b).2.1 := by
  intro a ha b hb
  have h1 := List.all_eq_true.mp (List.all_eq_true.mp (List.all_eq_true.mp nm_ok ci (List.mem_range.mpr h)) a (List.mem_range.mpr ha)) b (List.mem_range.mpr hb)
  exact of_decide_eq_true h1
theorem own_at {ci f : Nat} (h : ci < 10) (hf : f < cN ci) : (cT ci f).1 = oN ci := by
  have h1 := List.all_eq_true.mp (List.all_eq_true.mp own_ok ci (List.mem_range.mpr h)) f (List.mem_range.mpr hf)
  simpa using h1
theorem gF_some {h : AH} {a ci f : Nat} {v : Value} (q : gF h a ci f = some v) : ∃ fs, h a = .inr (ci, fs) ∧ fs[f]? = some v := by
  unfold gF at q
  split at q
  · rename_i c fs hc
    replace q := if_so q
    obtain ⟨rfl, q⟩ := q
    exact ⟨fs, hc, q⟩
  · cases q
theorem pF_some {h h' : AH} {a ci f : Nat} {v : Value} (q : pF h a ci f v = some h') : ∃ fs, h a = .inr (ci, fs) ∧ f < fs.length ∧ h' = put h a (.inr (ci, fs.set f v)) := by
  unfold pF at q
  split at q
  · rename_i c fs hc
    replace q := if_so q
    obtain ⟨⟨rfl, hf⟩, q⟩ := q
    cases q
    exact ⟨fs, hc, hf, rfl⟩
  · cases q
theorem am_obj {ad : Nat → Nat} {sz : Nat} {h : AH} {nx : AN} {s : State} (hH : am_H ad sz h nx s) {a ci : Nat} {fs : List Value} (e : h a = .inr (ci, fs)) (hci : ci < 10) : ∃ i, i < nx.1 ∧ a = 16 + i := by
  refine hH.made (fun q => ?_) (fun n f q => ?_)
  · rw [e] at q
    cases q
    omega
  · rw [e] at q
    cases q
theorem aL_some {h : AH} {a : Nat} {x : Int32} (q : aL h a = some x) : (∃ (c n : Nat) (f : Nat → Int32), h a = .inl (c, n, .inl f) ∧ (c < 3 ∨ c = 20) ∧ x = Int32.ofNat n) ∨ ∃ (c n : Nat) (f : Nat → Option Nat), h a = .inl (c, n, .inr (.inr (.inr (.inr f)))) ∧ (3 ≤ c ∧ c < 7) ∧ x = Int32.ofNat n := by
  unfold aL at q
  split at q
  · rename_i c n f hc
    replace q := if_so q
    obtain ⟨h1, q⟩ := q
    cases q
    exact Or.inl ⟨c, n, f, hc, h1, rfl⟩
  · rename_i c n f hc
    replace q := if_so q
    obtain ⟨h1, q⟩ := q
    cases q
    exact Or.inr ⟨c, n, f, hc, h1, rfl⟩
  · cases q
theorem am_arr {ad : Nat → Nat} {sz : Nat} {h : AH} {nx : AN} {s : State} (hH : am_H ad sz h nx s) {a c : Nat} {x : vp_A} (e : h a = .inl (c, x)) (hc : c ≠ 20) : ∃ i, i < nx.1 ∧ a = 16 + i := by
  refine hH.made (fun q => ?_) (fun n f q => ?_)
  · rw [e] at q
    cases q
  · rw [e] at q
    cases q
    exact hc rfl
theorem ib_in {i : Int32} {n : Nat} (h : ib i n = true) : vp_in i n := by
  have h1 : ¬ (i < 0 ∨ n ≤ i.toNatClampNeg) := of_decide_eq_true h
  exact h1
theorem rI_some {h : AH} {a t : Nat} {i x : Int32} (q : rI h a i t = some x) : ∃ n f, h a = .inl (t, n, .inl f) ∧ vp_in i n ∧ x = f i.toNatClampNeg := by
  unfold rI at q
  split at q
  · rename_i c n f hc
    replace q := if_so q
    obtain ⟨⟨rfl, hi⟩, q⟩ := q
    cases q
    exact ⟨n, f, hc, ib_in hi, rfl⟩
  · cases q
theorem wI_some {h h' : AH} {a t : Nat} {i x : Int32} (q : wI h a i t x = some h') : ∃ n f, h a = .inl (t, n, .inl f) ∧ vp_in i n ∧ h' = put h a (.inl (t, n, .inl (upd f i.toNatClampNeg x))) := by
  unfold wI at q
  split at q
  · rename_i c n f hc
    replace q := if_so q
    obtain ⟨⟨rfl, hi⟩, q⟩ := q
    cases q
    exact ⟨n, f, hc, ib_in hi, rfl⟩
  · cases q
theorem rR_some {h : AH} {a x : Nat} {i : Int32} (q : rR h a i = some x) : ∃ (c n : Nat) (f : Nat → Option Nat), h a = .inl (c, n, .inr (.inr (.inr (.inr f)))) ∧ (3 ≤ c ∧ c < 7) ∧ vp_in i n ∧ f i.toNatClampNeg = some x := by
  unfold rR at q
  split at q
  · rename_i c n f hc
    replace q := if_so q
    obtain ⟨⟨h1, hi⟩, q⟩ := q
    exact ⟨c, n, f, hc, h1, ib_in hi, q⟩
  · cases q
theorem wR_some {h h' : AH} {a v : Nat} {i : Int32} (q : wR h a i v = some h') : ∃ (c n : Nat) (f : Nat → Option Nat), h a = .inl (c, n, .inr (.inr (.inr (.inr f)))) ∧ (3 ≤ c ∧ c < 7) ∧ vp_in i n ∧ ck h v (aC c) = true ∧ h' = put h a (.inl (c, n, .inr (.inr (.inr (.inr (va_up f i.toNatClampNeg (some v))))))) := by
  unfold wR at q
  split at q
  · rename_i c n f hc
    replace q := if_so q
    obtain ⟨⟨⟨h1, hi⟩, h2⟩, q⟩ := q
    cases q
    exact ⟨c, n, f, hc, h1, ib_in hi, h2, rfl⟩
  · cases q
theorem ck_some {h : AH} {a ci : Nat} (q : ck h a ci = true) : ∃ fs, h a = .inr (ci, fs) := by
  unfold ck at q
  split at q
  · rename_i c fs hc
    rw [beq_iff_eq] at q
    subst q
    exact ⟨fs, hc⟩
  · cases q
theorem tys_at {c : Nat} (dA : Nat → Nat) (h : 3 ≤ c ∧ c < 7) : (am_tys dA)[c]? = some (dA c, .object (oN (aC c))) := by
  obtain ⟨h1, h2⟩ := h
  rcases (show c = 3 ∨ c = 4 ∨ c = 5 ∨ c = 6 by omega) with rfl | rfl | rfl | rfl <;> rfl
theorem aC_lt {c : Nat} (h : 3 ≤ c ∧ c < 7) : aC c < 10 := by
  obtain ⟨h1, h2⟩ := h
  rcases (show c = 3 ∨ c = 4 ∨ c = 5 ∨ c = 6 by omega) with rfl | rfl | rfl | rfl <;> decide
theorem okv_n {ad : Nat → Nat} {ty : FieldType} {v : Value} (h : okv ty v = true) : narrow ty (sv ad v) = sv ad v ∧ fits ty (sv ad v) = true := by
  unfold okv at h
  split at h
  · exact ⟨rfl, rfl⟩
  · rename_i x
    simp only [Bool.or_eq_true, beq_iff_eq] at h
    rcases h with rfl | rfl <;> exact ⟨by simp only [sv]; decide, by simp only [sv]; decide⟩
  · exact ⟨rfl, rfl⟩
  · exact ⟨rfl, rfl⟩
  · cases h
/-- the size of the heap is known: no more cells than were counted -/
theorem W_size {p : Program} {l : Launch} {e : Env} {R : Room} {s : State} {m : MethodId} {args : Array Value} {below : List Frame} {meth : Method} {c : Code} {H : Heap} {locs : List Loc} {cells slots : Nat} {Q : State → Prop} {g : JFrame} (k : H.size ≤ s.heap.size + cells → W p l e R s m args below meth c H locs cells slots Q g) : W p l e R s m args below meth c H locs cells slots Q g := by
  intro T hT X
  refine k ?_ T hT X
  have h1 := X.same.2.2.1
  rw [← hT]
  exact h1
theorem am_size {D : va_G} {ad dA : Nat → Nat} {sz n : Nat} {h : AH} {H : Heap} (had : ∀ i, ad (16 + i) = sz + i) (hP : va_P D classes (am_ws ad dA h n) H) (hz : sz ≤ H.size) : sz + n ≤ H.size := by
  cases n with
  | zero => simpa using hz
  | succ n =>
    have h1 := (hP n _ (am_ws_at (by omega))).lt
    have h1 : ad (16 + n) < H.size := h1
    rw [had] at h1
    omega
section SM
variable {p : Program} {l : Launch} {e : Env} {R : Room} {s : State} {m : MethodId} {args : Array Value} {below : List Frame} {meth : Method} {c : Code} {Q : State → Prop} {D : va_G} {ad dA : Nat → Nat} {sz k d : Nat} {n0 : AN} {call : Nat → List Value → AH → AN → Option AR} {pc len : Nat} {ls st : List Value} {h : AH} {nx : AN} {f : AF}

theorem sm_getfield {ix : Nat} (B : am_B p R s m args meth c D ad dA sz k d n0) (hd : decode (mC k) pc = .ok (.getfield ix, len)) (hs : am_do call k (.getfield ix) len pc ls st h nx = some (.inl f)) (kk : am_W p l e R s m args below meth c Q D ad dA sz k n0 f) : am_W p l e R s m args below meth c Q D ad dA sz k n0 (pc, ls, st, h, nx) := by
  obtain ⟨hx, hb, hml, hown, hts, hC, hin, hfr, hlo, hs0⟩ := B
  intro cls H locs cells slots hS
  obtain ⟨hl, hP, hSS, hH, hc1, hc2⟩ := id hS
  replace hs := if_so hs
  obtain ⟨rfl, hs⟩ := hs
  split at hs
  · rename_i o ci fn a r hk
    split at hs
    · rename_i v hv
      obtain rfl := to_inj hs
      obtain ⟨fs, e1, e2⟩ := gF_some hv
      obtain ⟨⟨j, hj⟩, hci, hf⟩ := lkF_spec hk
      obtain ⟨i, hi, rfl⟩ := am_obj hH e1 hci
      have he := am_ws_at (ad := ad) (dA := dA) (h := h) hi
      rw [e1] at he
      exact va_get hx hb hts (cls_in hci) hown hC.2.2.1 hP i he (classes_at hci) fn hf (hts _ (gw_at hj rfl)) (fun _ z => z) (by rw [List.getElem?_map, e2]; rfl) hd (kk _ _ _ _ _ hS)
    · cases hs
  · cases hs
theorem sm_putfield {ix : Nat} (B : am_B p R s m args meth c D ad dA sz k d n0) (hd : decode (mC k) pc = .ok (.putfield ix, len)) (hs : am_do call k (.putfield ix) len pc ls st h nx = some (.inl f)) (kk : am_W p l e R s m args below meth c Q D ad dA sz k n0 f) : am_W p l e R s m args below meth c Q D ad dA sz k n0 (pc, ls, st, h, nx) := by
  obtain ⟨hx, hb, hml, hown, hts, hC, hin, hfr, hlo, hs0⟩ := B
  intro cls H locs cells slots hS
  obtain ⟨hl, hP, hSS, hH, hc1, hc2⟩ := id hS
  replace hs := if_so hs
  obtain ⟨rfl, hs⟩ := hs
  split at hs
  · rename_i o ci fn v a r hk
    replace hs := if_so hs
    obtain ⟨hv, hs⟩ := hs
    split at hs
    · rename_i h1 hp
      obtain rfl := to_inj hs
      obtain ⟨fs, e1, g1, rfl⟩ := pF_some hp
      obtain ⟨⟨j, hj⟩, hci, hf⟩ := lkF_spec hk
      obtain ⟨i, hi, rfl⟩ := am_obj hH e1 hci
      have he := am_ws_at (ad := ad) (dA := dA) (h := h) hi
      rw [e1] at he
      have fin : ∀ H1, va_P D classes ((am_ws ad dA h nx.1).set i (ad (16 + i), .inr (ci, (fs.map (sv ad)).set fn (sv ad v)))) H1 → va_P D classes (am_ws ad dA (put h (16 + i) (.inr (ci, fs.set fn v))) nx.1) H1 := by
        intro H1 q
        rw [← am_ws_set hi]
        show va_P D classes (List.set _ i (_, .inr (ci, (fs.set fn v).map (sv ad)))) H1
        rw [List.map_set]
        exact q
      rcases hv.2 with hn | ⟨hn, ho⟩
      · refine va_put hx hb hts (cls_in hci) (cY ci) (fun z hz => cY_at hci hz) (nm_at hci) hown hC.2.2.1 hP (am_D hC.1 _ _) hSS i he (classes_at hci) fn hf (hts _ (gw_at hj rfl)) (fun _ z => z) hn (cY_at hci hf) (okv_n hv.1).1 (okv_n hv.1).2 (by rw [List.length_map]; exact g1) hd (fun H1 locs1 hP1 hD1 hS1 => kk _ _ _ _ _ ⟨hl, ?_, hS1, hH.set (by omega) (by omega) (fun n f z => by cases z), hc1, hc2⟩)
        exact fin H1 hP1
      · by_cases hfi : (cT ci fn).2.2.2 = true
        · refine va_putF hx hb hts (cls_in hci) (cY ci) (fun z hz => cY_at hci hz) (nm_at hci) hown hC.2.2.1 hP (am_D hC.1 _ _) hSS i he (classes_at hci) fn hf (hts _ (gw_at hj rfl)) (fun _ z => z) hfi (hin.trans hn) ((own_at hci hf).trans (by rw [ho])) (cY_at hci hf) (okv_n hv.1).1 (okv_n hv.1).2 (by rw [List.length_map]; exact g1) hd (fun H1 locs1 hP1 hD1 hS1 => kk _ _ _ _ _ ⟨hl, ?_, hS1, hH.set (by omega) (by omega) (fun n f z => by cases z), hc1, hc2⟩)
          exact fin H1 hP1
        · refine va_put hx hb hts (cls_in hci) (cY ci) (fun z hz => cY_at hci hz) (nm_at hci) hown hC.2.2.1 hP (am_D hC.1 _ _) hSS i he (classes_at hci) fn hf (hts _ (gw_at hj rfl)) (fun _ z => z) (Bool.eq_false_iff.mpr hfi) (cY_at hci hf) (okv_n hv.1).1 (okv_n hv.1).2 (by rw [List.length_map]; exact g1) hd (fun H1 locs1 hP1 hD1 hS1 => kk _ _ _ _ _ ⟨hl, ?_, hS1, hH.set (by omega) (by omega) (fun n f z => by cases z), hc1, hc2⟩)
          exact fin H1 hP1
    · cases hs
  · cases hs
theorem sm_getstatic {ix : Nat} (B : am_B p R s m args meth c D ad dA sz k d n0) (hd : decode (mC k) pc = .ok (.getstatic ix, len)) (hs : am_do call k (.getstatic ix) len pc ls st h nx = some (.inl f)) (kk : am_W p l e R s m args below meth c Q D ad dA sz k n0 f) : am_W p l e R s m args below meth c Q D ad dA sz k n0 (pc, ls, st, h, nx) := by
  obtain ⟨hx, hb, hml, hown, hts, hC, hin, hfr, hlo, hs0⟩ := B
  intro cls H locs cells slots hS
  obtain ⟨hl, hP, hSS, hH, hc1, hc2⟩ := id hS
  replace hs := if_so hs
  obtain ⟨rfl, hs⟩ := hs
  split at hs
  · rename_i a hk
    obtain rfl := to_inj hs
    replace hk := if_so hk
    obtain ⟨ho, hk⟩ := hk
    rw [ho] at hown
    split at hk
    · rename_i hi
      subst hi
      cases hk
      exact va_gets hx hb (hC.2.2.2.2.2.1.1) hSS hown (hts (.fieldLink "ThirstLead" 128 "ThirstLead" "SET_MOST" "[I") (gw_at (j := 449) (by decide +kernel) rfl)) (fun _ z => z) hd (kk _ _ _ _ _ hS)
    split at hk
    · rename_i hi
      subst hi
      cases hk
      exact va_gets hx hb (hC.2.2.2.2.2.1.2.1) hSS hown (hts (.fieldLink "ThirstLead" 134 "ThirstLead" "RULE_MOST" "[I") (gw_at (j := 459) (by decide +kernel) rfl)) (fun _ z => z) hd (kk _ _ _ _ _ hS)
    split at hk
    · rename_i hi
      subst hi
      cases hk
      exact va_gets hx hb (hC.2.2.2.2.2.1.2.2) hSS hown (hts (.fieldLink "ThirstLead" 137 "ThirstLead" "RULE_LEAST" "[I") (gw_at (j := 461) (by decide +kernel) rfl)) (fun _ z => z) hd (kk _ _ _ _ _ hS)
    · cases hk
  · cases hs
theorem sm_ldc_w {ix : Nat} (B : am_B p R s m args meth c D ad dA sz k d n0) (hd : decode (mC k) pc = .ok (.ldc_w ix, len)) (hs : am_do call k (.ldc_w ix) len pc ls st h nx = some (.inl f)) (kk : am_W p l e R s m args below meth c Q D ad dA sz k n0 f) : am_W p l e R s m args below meth c Q D ad dA sz k n0 (pc, ls, st, h, nx) := by
  obtain ⟨hx, hb, hml, hown, hts, hC, hin, hfr, hlo, hs0⟩ := B
  intro cls H locs cells slots hS
  obtain ⟨hl, hP, hSS, hH, hc1, hc2⟩ := id hS
  replace hs := if_so hs
  obtain ⟨rfl, hs⟩ := hs
  split at hs
  · rename_i v hk
    obtain rfl := to_inj hs
    obtain ⟨j, hj⟩ := lkK_spec hk
    exact lv_ldcw hx hb hown (hts _ (gw_at hj rfl)) hd (kk _ _ _ _ _ hS)
  · cases hs
theorem sm_ldc {ix : Nat} (B : am_B p R s m args meth c D ad dA sz k d n0) (hd : decode (mC k) pc = .ok (.ldc ix, len)) (hs : am_do call k (.ldc ix) len pc ls st h nx = some (.inl f)) (kk : am_W p l e R s m args below meth c Q D ad dA sz k n0 f) : am_W p l e R s m args below meth c Q D ad dA sz k n0 (pc, ls, st, h, nx) := by
  obtain ⟨hx, hb, hml, hown, hts, hC, hin, hfr, hlo, hs0⟩ := B
  intro cls H locs cells slots hS
  obtain ⟨hl, hP, hSS, hH, hc1, hc2⟩ := id hS
  replace hs := if_so hs
  obtain ⟨rfl, hs⟩ := hs
  split at hs
  · rename_i v hk
    obtain rfl := to_inj hs
    obtain ⟨j, hj⟩ := lkK_spec hk
    exact lv_ldc hx hb hown (hts _ (gw_at hj rfl)) hd (kk _ _ _ _ _ hS)
  · split at hs
    · rename_i a hk2
      obtain rfl := to_inj hs
      replace hk2 := if_so hk2
      obtain ⟨ho, hk2⟩ := hk2
      rw [ho] at hown
      split at hk2
      · rename_i hi
        subst hi
        cases hk2
        exact va_ldcS hx hb hown (hC.2.2.2.2.2.2.2.1 0 _ rfl) hd (kk _ _ _ _ _ hS)
      split at hk2
      · rename_i hi
        subst hi
        cases hk2
        exact va_ldcS hx hb hown (hC.2.2.2.2.2.2.2.1 1 _ rfl) hd (kk _ _ _ _ _ hS)
      split at hk2
      · rename_i hi
        subst hi
        cases hk2
        exact va_ldcS hx hb hown (hC.2.2.2.2.2.2.2.1 2 _ rfl) hd (kk _ _ _ _ _ hS)
      split at hk2
      · rename_i hi
        subst hi
        cases hk2
        exact va_ldcS hx hb hown (hC.2.2.2.2.2.2.2.1 3 _ rfl) hd (kk _ _ _ _ _ hS)
      split at hk2
      · rename_i hi
        subst hi
        cases hk2
        exact va_ldcS hx hb hown (hC.2.2.2.2.2.2.2.1 4 _ rfl) hd (kk _ _ _ _ _ hS)
      split at hk2
      · rename_i hi
        subst hi
        cases hk2
        exact va_ldcS hx hb hown (hC.2.2.2.2.2.2.2.1 5 _ rfl) hd (kk _ _ _ _ _ hS)
      · cases hk2
    · cases hs
theorem sm_baload  (B : am_B p R s m args meth c D ad dA sz k d n0) (hd : decode (mC k) pc = .ok (.baload, len)) (hs : am_do call k (.baload) len pc ls st h nx = some (.inl f)) (kk : am_W p l e R s m args below meth c Q D ad dA sz k n0 f) : am_W p l e R s m args below meth c Q D ad dA sz k n0 (pc, ls, st, h, nx) := by
  obtain ⟨hx, hb, hml, hown, hts, hC, hin, hfr, hlo, hs0⟩ := B
  intro cls H locs cells slots hS
  obtain ⟨hl, hP, hSS, hH, hc1, hc2⟩ := id hS
  replace hs := if_so hs
  obtain ⟨rfl, hs⟩ := hs
  split at hs
  · rename_i i a r
    split at hs
    · rename_i x hv
      obtain rfl := to_inj hs
      obtain ⟨n, fa, e1, e2, rfl⟩ := rI_some hv
      obtain ⟨q, hq, rfl⟩ := am_arr hH e1 (by decide)
      have he := am_ws_at (ad := ad) (dA := dA) (h := h) hq
      rw [e1] at he
      exact va_zald hx hb hC.2.2.1 hP q 1 he rfl e2 hd (kk _ _ _ _ _ hS)
    · cases hs
  · cases hs
theorem sm_caload  (B : am_B p R s m args meth c D ad dA sz k d n0) (hd : decode (mC k) pc = .ok (.caload, len)) (hs : am_do call k (.caload) len pc ls st h nx = some (.inl f)) (kk : am_W p l e R s m args below meth c Q D ad dA sz k n0 f) : am_W p l e R s m args below meth c Q D ad dA sz k n0 (pc, ls, st, h, nx) := by
  obtain ⟨hx, hb, hml, hown, hts, hC, hin, hfr, hlo, hs0⟩ := B
  intro cls H locs cells slots hS
  obtain ⟨hl, hP, hSS, hH, hc1, hc2⟩ := id hS
  replace hs := if_so hs
  obtain ⟨rfl, hs⟩ := hs
  split at hs
  · rename_i i a r
    split at hs
    · rename_i x hv
      obtain rfl := to_inj hs
      obtain ⟨n, fa, e1, e2, rfl⟩ := rI_some hv
      obtain ⟨q, hq, rfl⟩ := am_arr hH e1 (by decide)
      have he := am_ws_at (ad := ad) (dA := dA) (h := h) hq
      rw [e1] at he
      exact va_cald hx hb hC.2.2.1 hP q 2 he rfl e2 hd (kk _ _ _ _ _ hS)
    · cases hs
  · cases hs
theorem sm_iaload  (B : am_B p R s m args meth c D ad dA sz k d n0) (hd : decode (mC k) pc = .ok (.iaload, len)) (hs : am_do call k (.iaload) len pc ls st h nx = some (.inl f)) (kk : am_W p l e R s m args below meth c Q D ad dA sz k n0 f) : am_W p l e R s m args below meth c Q D ad dA sz k n0 (pc, ls, st, h, nx) := by
  obtain ⟨hx, hb, hml, hown, hts, hC, hin, hfr, hlo, hs0⟩ := B
  intro cls H locs cells slots hS
  obtain ⟨hl, hP, hSS, hH, hc1, hc2⟩ := id hS
  replace hs := if_so hs
  obtain ⟨rfl, hs⟩ := hs
  split at hs
  · rename_i i a r
    split at hs
    · rename_i x hv
      obtain rfl := to_inj hs
      obtain ⟨n, fa, e1, e2, rfl⟩ := rI_some hv
      obtain ⟨q, hq, rfl⟩ := am_arr hH e1 (by decide)
      have he := am_ws_at (ad := ad) (dA := dA) (h := h) hq
      rw [e1] at he
      exact va_iald hx hb hC.2.2.1 hP q 0 he rfl e2 hd (kk _ _ _ _ _ hS)
    · split at hs
      · rename_i x hv
        obtain rfl := to_inj hs
        obtain ⟨n, fa, e1, e2, rfl⟩ := rI_some hv
        obtain ⟨-, hT⟩ := hH.2.2 a n fa e1
        exact va_ti hx hb hT hSS e2 rfl hd (kk _ _ _ _ _ hS)
      · cases hs
  · cases hs
theorem sm_aaload  (B : am_B p R s m args meth c D ad dA sz k d n0) (hd : decode (mC k) pc = .ok (.aaload, len)) (hs : am_do call k (.aaload) len pc ls st h nx = some (.inl f)) (kk : am_W p l e R s m args below meth c Q D ad dA sz k n0 f) : am_W p l e R s m args below meth c Q D ad dA sz k n0 (pc, ls, st, h, nx) := by
  obtain ⟨hx, hb, hml, hown, hts, hC, hin, hfr, hlo, hs0⟩ := B
  intro cls H locs cells slots hS
  obtain ⟨hl, hP, hSS, hH, hc1, hc2⟩ := id hS
  replace hs := if_so hs
  obtain ⟨rfl, hs⟩ := hs
  split at hs
  · rename_i i a r
    split at hs
    · rename_i x hv
      obtain rfl := to_inj hs
      obtain ⟨cc, n, fa, e1, hcc, e2, e3⟩ := rR_some hv
      obtain ⟨q, hq, rfl⟩ := am_arr hH e1 (by omega)
      have he := am_ws_at (ad := ad) (dA := dA) (h := h) hq
      rw [e1] at he
      refine va_aldq hx hb hC.2.2.1 hP q cc he (tys_at dA hcc) e2 hd ?_
      show W p l e R s m args below meth c H locs cells slots Q (F0 m (pc + 1) cls (va_rf ((fa i.toNatClampNeg).map ad) :: r.map (sv ad)))
      rw [e3]
      exact kk _ _ _ _ _ hS
    · cases hs
  · cases hs
theorem sm_iastore  (B : am_B p R s m args meth c D ad dA sz k d n0) (hd : decode (mC k) pc = .ok (.iastore, len)) (hs : am_do call k (.iastore) len pc ls st h nx = some (.inl f)) (kk : am_W p l e R s m args below meth c Q D ad dA sz k n0 f) : am_W p l e R s m args below meth c Q D ad dA sz k n0 (pc, ls, st, h, nx) := by
  obtain ⟨hx, hb, hml, hown, hts, hC, hin, hfr, hlo, hs0⟩ := B
  intro cls H locs cells slots hS
  obtain ⟨hl, hP, hSS, hH, hc1, hc2⟩ := id hS
  replace hs := if_so hs
  obtain ⟨rfl, hs⟩ := hs
  split at hs
  · rename_i x i a r
    split at hs
    · rename_i h1 hv
      obtain rfl := to_inj hs
      obtain ⟨n, fa, e1, e2, rfl⟩ := wI_some hv
      obtain ⟨q, hq, rfl⟩ := am_arr hH e1 (by decide)
      have he := am_ws_at (ad := ad) (dA := dA) (h := h) hq
      rw [e1] at he
      refine va_iast hx hb hC.2.2.1 hP (am_D hC.1 _ _) hSS q 0 he rfl e2 hd (fun H1 locs1 hP1 hD1 hS1 => kk _ _ _ _ _ ⟨hl, ?_, hS1, hH.set (by omega) (by omega) (fun n f z => by cases z), hc1, hc2⟩)
      rw [← am_ws_set hq]
      exact hP1
    · cases hs
  · cases hs
theorem sm_bastore  (B : am_B p R s m args meth c D ad dA sz k d n0) (hd : decode (mC k) pc = .ok (.bastore, len)) (hs : am_do call k (.bastore) len pc ls st h nx = some (.inl f)) (kk : am_W p l e R s m args below meth c Q D ad dA sz k n0 f) : am_W p l e R s m args below meth c Q D ad dA sz k n0 (pc, ls, st, h, nx) := by
  obtain ⟨hx, hb, hml, hown, hts, hC, hin, hfr, hlo, hs0⟩ := B
  intro cls H locs cells slots hS
  obtain ⟨hl, hP, hSS, hH, hc1, hc2⟩ := id hS
  replace hs := if_so hs
  obtain ⟨rfl, hs⟩ := hs
  split at hs
  · rename_i x i a r
    split at hs
    · rename_i h1 hv
      obtain rfl := to_inj hs
      obtain ⟨n, fa, e1, e2, rfl⟩ := wI_some hv
      obtain ⟨q, hq, rfl⟩ := am_arr hH e1 (by decide)
      have he := am_ws_at (ad := ad) (dA := dA) (h := h) hq
      rw [e1] at he
      refine va_zast hx hb hC.2.2.1 hP (am_D hC.1 _ _) hSS q 1 he rfl e2 hd (fun H1 locs1 hP1 hD1 hS1 => kk _ _ _ _ _ ⟨hl, ?_, hS1, hH.set (by omega) (by omega) (fun n f z => by cases z), hc1, hc2⟩)
      rw [← am_ws_set hq]
      exact hP1
    · cases hs
  · cases hs
theorem sm_castore  (B : am_B p R s m args meth c D ad dA sz k d n0) (hd : decode (mC k) pc = .ok (.castore, len)) (hs : am_do call k (.castore) len pc ls st h nx = some (.inl f)) (kk : am_W p l e R s m args below meth c Q D ad dA sz k n0 f) : am_W p l e R s m args below meth c Q D ad dA sz k n0 (pc, ls, st, h, nx) := by
  obtain ⟨hx, hb, hml, hown, hts, hC, hin, hfr, hlo, hs0⟩ := B
  intro cls H locs cells slots hS
  obtain ⟨hl, hP, hSS, hH, hc1, hc2⟩ := id hS
  replace hs := if_so hs
  obtain ⟨rfl, hs⟩ := hs
  split at hs
  · rename_i x i a r
    split at hs
    · rename_i h1 hv
      obtain rfl := to_inj hs
      obtain ⟨n, fa, e1, e2, rfl⟩ := wI_some hv
      obtain ⟨q, hq, rfl⟩ := am_arr hH e1 (by decide)
      have he := am_ws_at (ad := ad) (dA := dA) (h := h) hq
      rw [e1] at he
      refine va_cast hx hb hC.2.2.1 hP (am_D hC.1 _ _) hSS q 2 he rfl e2 hd (fun H1 locs1 hP1 hD1 hS1 => kk _ _ _ _ _ ⟨hl, ?_, hS1, hH.set (by omega) (by omega) (fun n f z => by cases z), hc1, hc2⟩)
      rw [← am_ws_set hq]
      exact hP1
    · cases hs
  · cases hs
theorem sm_aastore  (B : am_B p R s m args meth c D ad dA sz k d n0) (hd : decode (mC k) pc = .ok (.aastore, len)) (hs : am_do call k (.aastore) len pc ls st h nx = some (.inl f)) (kk : am_W p l e R s m args below meth c Q D ad dA sz k n0 f) : am_W p l e R s m args below meth c Q D ad dA sz k n0 (pc, ls, st, h, nx) := by
  obtain ⟨hx, hb, hml, hown, hts, hC, hin, hfr, hlo, hs0⟩ := B
  intro cls H locs cells slots hS
  obtain ⟨hl, hP, hSS, hH, hc1, hc2⟩ := id hS
  replace hs := if_so hs
  obtain ⟨rfl, hs⟩ := hs
  split at hs
  · rename_i x i a r
    split at hs
    · rename_i h1 hv
      obtain rfl := to_inj hs
      obtain ⟨cc, n, fa, e1, hcc, e2, e3, rfl⟩ := wR_some hv
      obtain ⟨fs, e4⟩ := ck_some e3
      obtain ⟨q, hq, rfl⟩ := am_arr hH e1 (by omega)
      obtain ⟨q2, hq2, rfl⟩ := am_obj hH e4 (aC_lt hcc)
      have he := am_ws_at (ad := ad) (dA := dA) (h := h) hq
      rw [e1] at he
      have he2 := am_ws_at (ad := ad) (dA := dA) (h := h) hq2
      rw [e4] at he2
      refine va_astq hx hb hC.2.2.1 hP (am_D hC.1 _ _) hSS q cc q2 (aC cc) (r := (oN (aC cc), cT (aC cc), cN (aC cc))) he (tys_at dA hcc) he2 (classes_at (aC_lt hcc)) e2 hd (fun H1 locs1 hP1 hD1 hS1 => kk _ _ _ _ _ ⟨hl, ?_, hS1, hH.set (by omega) (by omega) (fun n f z => by cases z), hc1, hc2⟩)
      rw [← am_ws_set hq]
      show va_P D classes (List.set _ q (_, .inl (dA cc, n, .inr (.inr (.inr (.inr fun z => (va_up fa i.toNatClampNeg (some (16 + q2)) z).map ad)))))) H1
      have ef : (fun z => (va_up fa i.toNatClampNeg (some (16 + q2)) z).map ad) = va_up (fun z => (fa z).map ad) i.toNatClampNeg (some (ad (16 + q2))) := by
        funext z
        unfold va_up
        by_cases hz : z = i.toNatClampNeg
        · simp [hz]
        · simp [hz]
      rw [ef]
      exact hP1
    · cases hs
  · cases hs
theorem sm_arraylength  (B : am_B p R s m args meth c D ad dA sz k d n0) (hd : decode (mC k) pc = .ok (.arraylength, len)) (hs : am_do call k (.arraylength) len pc ls st h nx = some (.inl f)) (kk : am_W p l e R s m args below meth c Q D ad dA sz k n0 f) : am_W p l e R s m args below meth c Q D ad dA sz k n0 (pc, ls, st, h, nx) := by
  obtain ⟨hx, hb, hml, hown, hts, hC, hin, hfr, hlo, hs0⟩ := B
  intro cls H locs cells slots hS
  obtain ⟨hl, hP, hSS, hH, hc1, hc2⟩ := id hS
  replace hs := if_so hs
  obtain ⟨rfl, hs⟩ := hs
  split at hs
  · rename_i a r
    split at hs
    · rename_i x hv
      obtain rfl := to_inj hs
      rcases aL_some hv with ⟨cc, n, fa, e1, hcc, rfl⟩ | ⟨cc, n, fa, e1, hcc, rfl⟩
      · by_cases h20 : cc = 20
        · subst h20
          obtain ⟨-, hT⟩ := hH.2.2 a n fa e1
          exact va_tlen hx hb hT hSS rfl hd (kk _ _ _ _ _ hS)
        · obtain ⟨q, hq, rfl⟩ := am_arr hH e1 h20
          have he := am_ws_at (ad := ad) (dA := dA) (h := h) hq
          rw [e1] at he
          rcases (show cc = 0 ∨ cc = 1 ∨ cc = 2 by omega) with rfl | rfl | rfl
          · exact va_alen hx hb hC.2.2.1 hP q 0 he rfl rfl hd (kk _ _ _ _ _ hS)
          · exact va_alen hx hb hC.2.2.1 hP q 1 he rfl rfl hd (kk _ _ _ _ _ hS)
          · exact va_alen hx hb hC.2.2.1 hP q 2 he rfl rfl hd (kk _ _ _ _ _ hS)
      · obtain ⟨q, hq, rfl⟩ := am_arr hH e1 (by omega)
        have he := am_ws_at (ad := ad) (dA := dA) (h := h) hq
        rw [e1] at he
        exact va_alen hx hb hC.2.2.1 hP q cc he (tys_at dA hcc) rfl hd (kk _ _ _ _ _ hS)
    · cases hs
  · cases hs
end SM
end
section
theorem am_newaddr {D : va_G} {ad dA : Nat → Nat} {sz n q : Nat} {h : AH} {E : va_E} {H1 : Heap} (had : ∀ i, ad (16 + i) = sz + i) (hP1 : va_P D classes (am_ws ad dA h n ++ [(q, E)]) H1) (hD1 : va_D (am_A sz) (am_ws ad dA h n ++ [(q, E)])) (hz : H1.size ≤ sz + n + 1) : q = ad (16 + n) := by
  have hn : (am_ws ad dA h n ++ [(q, E)])[n]? = some (q, E) := by rw [List.getElem?_append_right (by rw [am_ws_len]; omega), am_ws_len]; simp
  have h1 : sz ≤ q := hD1.2 n _ hn
  have h2 : q < H1.size := (hP1 n _ hn).lt
  rw [had]
  by_cases hq : q < sz + n
  · have hi : (am_ws ad dA h n ++ [(q, E)])[q - sz]? = some (ad (16 + (q - sz)), se ad dA (h (16 + (q - sz)))) := by
      rw [List.getElem?_append_left (by rw [am_ws_len]; omega), am_ws_at (by omega)]
    have := hD1.1 _ _ _ _ hi hn (by show ad (16 + (q - sz)) = q; rw [had]; omega)
    omega
  · omega
theorem am_newcls {D : va_G} {dA : Nat → Nat} {s : State} {cA : ClassId} {ty : FieldType} {t : Nat} (hK : va_K D classes (am_tys dA) s) (hK1 : va_K D classes (am_tys dA ++ [(cA, ty)]) s) (ht : (am_tys dA)[t]? = some (dA t, ty)) : cA = dA t := by
  have h1 := (hK.2 t _ ht).2
  have h2 := (hK1.2 7 (cA, ty) rfl).2
  cases ty with
  | object C =>
    obtain ⟨_, _, -, -, -, g1⟩ := h1
    obtain ⟨_, _, -, -, -, g2⟩ := h2
    exact Option.some.inj (g2.symm.trans g1)
  | _ => exact Option.some.inj (h2.symm.trans h1)
theorem sv_dfl (ad : Nat → Nat) (ty : FieldType) : sv ad (defaultValue ty) = defaultValue ty := by cases ty <;> rfl
theorem dfl_at (ad : Nat → Nat) (ci j : Nat) (hj : j < cN ci) : defaultValue (cY ci j) = vp_V ((dfl ci).map (sv ad)) j := by
  unfold vp_V dfl
  rw [List.getD_eq_getElem?_getD, List.getElem?_map, List.getElem?_map, List.getElem?_range hj]
  exact (sv_dfl ad _).symm
theorem tcO_cases {ci : Nat} (h : tcO ci < 7) : ci = 7 ∨ ci = 2 ∨ ci = 5 ∨ ci = 6 := by
  unfold tcO at h
  split at h <;> first | omega | simp_all
theorem va_T_moved {ty : FieldType} {t N sz : Nat} {f : Nat → Value} {s U : State} (hvm : s.vm.Alike U.vm) (hq : ∀ q : Nat, q < s.heap.size → ¬ am_A sz q → U.heap[q]? = s.heap[q]?) (h : va_T ty t N f (am_A sz) s s.heap) : va_T ty t N f (am_A sz) U U.heap := va_T.moved hvm (h.kept hq)
theorem am_H.moved {ad : Nat → Nat} {sz : Nat} {h : AH} {nx : AN} {s U : State} (hH : am_H ad sz h nx s) (hvm : s.vm.Alike U.vm) (hq : ∀ q : Nat, q < s.heap.size → ¬ am_A sz q → U.heap[q]? = s.heap[q]?) : am_H ad sz h nx U :=
  ⟨hH.1, hH.2.1, fun a n f e => ⟨(hH.2.2 a n f e).1, va_T_moved hvm hq (hH.2.2 a n f e).2⟩⟩
theorem am_T.moved {ad : Nat → Nat} {sz : Nat} {s U : State} (h : am_T ad sz s) (hvm : s.vm.Alike U.vm) (hR : ∀ (own : String) (k : Nat) (tx : String) (a : Nat), vk_R own k tx a s → vk_R own k tx a U) (hq : ∀ q : Nat, q < s.heap.size → ¬ am_A sz q → U.heap[q]? = s.heap[q]?) : am_T ad sz U := by
  obtain ⟨⟨adV, h1⟩, h2, h3, h4⟩ := h
  exact ⟨⟨adV, vk_S.moved hvm (h1.kept hq)⟩, fun i q hi => hR _ _ _ _ (h2 i q hi), va_Z.moved hvm (h3.kept hq), va_Zq.moved hvm (h4.kept hq)⟩
theorem am_C.moved {D : va_G} {ad dA : Nat → Nat} {sz : Nat} {s U : State} (hC : am_C D ad dA sz s) (hvm : s.vm.Alike U.vm) (hN : ∀ (a : String) (i : Nat) (x : MethodName) (w : String), va_Nw (.methodLinkNest a i x w) s → va_Nw (.methodLinkNest a i x w) U) (hR : ∀ (own : String) (k : Nat) (tx : String) (a : Nat), vk_R own k tx a s → vk_R own k tx a U)
    (hq : ∀ q : Nat, q < s.heap.size → ¬ am_A sz q → U.heap[q]? = s.heap[q]?) (hz : sz ≤ U.heap.size) : am_C D ad dA sz U := by
  obtain ⟨h1, h2, h3, ⟨a1, a2, a3, a4⟩, h5, ⟨z1, z2, z3⟩, h7⟩ := hC
  exact ⟨h1, hz, va_K.moved hvm h3, ⟨va_AO.moved hvm a1, va_AO.moved hvm a2, va_AO.moved hvm a3, va_AO.moved hvm a4⟩, fun e he => hN _ _ _ _ (h5 e he), ⟨va_Z.moved hvm (z1.kept hq), va_Z.moved hvm (z2.kept hq), va_Z.moved hvm (z3.kept hq)⟩, h7.moved hvm hR hq⟩
/-- a method's start and its end, over the abstract heap -/
def am_Pc (D : va_G) (ad dA : Nat → Nat) (sz : Nat) (args : List Value) (h : AH) (nx : AN) : Array Value → State → Prop := fun a U => a = (args.map (sv ad)).toArray ∧ va_P D classes (am_ws ad dA h nx.1) U.heap ∧ U.heap.size = sz + nx.1 ∧ am_C D ad dA sz U ∧ am_H ad sz h nx U
def am_Qc (D : va_G) (ad dA : Nat → Nat) (sz : Nat) (r : AR) : Array Value → State → Outcome → State → Prop := fun _ st o t => o = .returned (r.1.map (sv ad)) ∧ va_P D classes (am_ws ad dA r.2.1 r.2.2.1) t.heap ∧ am_H ad sz r.2.1 r.2.2 t ∧ va_F (am_A sz) st t
def mW (k : Nat) : List Cond := Cond.code (mY k) (mC k) (mL k) (mR k) :: gw
def am_rm (d mc ms : Nat) : Room := { frames := d, cells := mc, slots := ms, locals := 64 * d }
def am_K (l : Launch) (D : va_G) (ad dA : Nat → Nat) (sz d k : Nat) (args : List Value) (h : AH) (nx : AN) (r : AR) : Prop := Met l (mY k) (mW k) (am_rm d (r.2.2.1 - nx.1) (r.2.2.2 - nx.2)) (am_Pc D ad dA sz args h nx) (am_Qc D ad dA sz r) (r.2.2.1 - nx.1) (r.2.2.2 - nx.2) (am_A sz)
theorem am_blind (D : va_G) (ad dA : Nat → Nat) (sz : Nat) (args : List Value) (h : AH) (nx : AN) : FrameBlind (am_Pc D ad dA sz args h nx) := by
  intro a U g mk q
  obtain ⟨q1, q2, q3, q4, q5⟩ := q
  have hvm : U.vm.Alike (U.calling g mk a).vm := Vm.Alike.refl U.vm
  exact ⟨q1, q2, q3, q4.moved hvm (fun _ _ _ _ z => va_Nw.same rfl rfl z) (fun _ _ _ _ z => vk_R.same rfl z) (fun _ _ _ => rfl) q4.2.1, q5.moved hvm (fun _ _ _ => rfl)⟩
theorem gw_good : ∀ w ∈ gw, w ∈ gw ∧ ((w.onTables && w.keeps) = true ∨ ∃ ty, w = .arrayClass ty) := fun w h => ⟨h, good_of_word (List.mem_filter.mp h).2⟩
theorem mT_at {k : Nat} (h : k < kLaw) : ∃ t, t ∈ mTs ∧ mT[k]? = some t := by
  have hl : k < mTs.length := by rw [mTs_len]; exact h
  refine ⟨mTs[k], List.getElem_mem hl, ?_⟩
  show (mTs ++ _)[k]? = _
  rw [List.getElem?_append_left hl, List.getElem?_eq_getElem hl]
theorem mW_code {k : Nat} (h : k < kLaw) : Cond.code (mY k) (mC k) (mL k) (mR k) ∈ gw := by
  obtain ⟨t, h1, h2⟩ := mT_at h
  have := mw t h1
  simp only [mY, mC, mL, mR, h2]
  exact gw_at this rfl
theorem m_facts {k : Nat} (h : k < kLaw) : (∃ j : Nat, lwa j = some (.initialized (mY k).cls)) ∧ (mY k).cls = oN (mO k) ∧ ((mY k).cls ≠ "java/lang/invoke/MethodHandle" ∧ (mY k).cls ≠ "java/lang/invoke/VarHandle") ∧ mL k ≤ 40 ∧ (parseMethodDescriptor (mY k).desc).map (fun d => d.parameters.length) = some (mA k) ∧ plainFor (mY k) = true := by
  obtain ⟨t, h1, h2⟩ := mT_at h
  have a := List.all_eq_true.mp mT_ok t h1
  have b := List.all_eq_true.mp mT_de t h1
  have c := List.all_eq_true.mp mT_pl t h1
  simp only [mT_ck, Bool.and_eq_true, decide_eq_true_eq] at a
  simp only [mT_dk, decide_eq_true_eq] at b
  simp only [mY, mO, mL, mA, h2]
  exact ⟨⟨_, a.1.1.1⟩, a.1.1.2, a.1.2, a.2, b, c⟩
theorem mW_good {k : Nat} (h : k < kLaw) : GoodIn gw (mW k) := by
  intro w hw
  rcases List.mem_cons.mp hw with rfl | hw
  · exact gw_good _ (mW_code h)
  · exact gw_good w hw
theorem lkM_spec {o i kd k : Nat} (h : lkM o i = some (kd, k)) : ∃ jl jt js, (o, i, kd, k, jl, jt, js) ∈ tM ∧ tM_ck (o, i, kd, k, jl, jt, js) = true := by
  unfold lkM at h
  cases hf : tM.find? fun e => e.1 == o && e.2.1 == i with
  | none => rw [hf] at h; cases h
  | some x =>
    obtain ⟨a, b, kd', k', jl, jt, js⟩ := x
    rw [hf] at h
    cases h
    have h1 := List.find?_some hf
    have hm := List.mem_of_find?_eq_some hf
    have h2 := List.all_eq_true.mp tM_ok _ hm
    simp only [Bool.and_eq_true, beq_iff_eq] at h1
    obtain ⟨rfl, rfl⟩ := h1
    exact ⟨jl, jt, js, hm, h2⟩
theorem nest_mem {o i kd k a b c : Nat} (h : (o, i, kd, k, a, b, c) ∈ tM) (hk : (kd == 2 || kd == 4) = true) : (o, i, k) ∈ am_nest := by
  unfold am_nest
  exact List.mem_map.mpr ⟨(o, i, kd, k, a, b, c), List.mem_filter.mpr ⟨h, hk⟩, rfl⟩
theorem cat_sum (ad : Nat → Nat) : ∀ (r : List Value), r.length ≤ 4 → ((r.map (sv ad)).map fun v => v.category).sum ≤ 8 := by
  have key : ∀ r : List Value, ((r.map (sv ad)).map fun v => v.category).sum ≤ 2 * r.length := by
    intro r
    induction r with
    | nil => simp
    | cons a r ih =>
      have : (sv ad a).category ≤ 2 := by rcases lv_cat (sv ad a) with q | q <;> omega
      simp only [List.map_cons, List.sum_cons, List.length_cons]
      omega
  intro r hr
  have := key r
  omega
theorem cpA_some {h h' : AH} {a0 a : Nat} {sp dp n : Int32} (q : cpA h a0 a sp dp n = some h') : ∃ (n0 n1 : Nat) (f g : Nat → Int32), h a0 = .inl (0, n0, .inl f) ∧ h a = .inl (0, n1, .inl g) ∧ ((¬ sp < 0 ∧ ¬ dp < 0 ∧ ¬ n < 0) ∧ sp.toNatClampNeg + n.toNatClampNeg ≤ n0 ∧ dp.toNatClampNeg + n.toNatClampNeg ≤ n1) ∧ h' = put h a (.inl (0, n1, .inl (va_cpy f g sp.toNatClampNeg dp.toNatClampNeg n.toNatClampNeg))) := by
  unfold cpA at q
  split at q
  · rename_i c0 n0 f c1 n1 g h0 h1
    replace q := if_so q
    obtain ⟨⟨⟨rfl, rfl⟩, hc⟩, q⟩ := q
    cases q
    exact ⟨n0, n1, f, g, h0, h1, hc, rfl⟩
  · cases q
theorem aft_some {pc : Nat} {ls rest : List Value} {o : Option AR} {f : AF} (q : aft pc ls rest o = some (.inl f)) : ∃ r : AR, o = some r ∧ f = (pc, ls, r.1.toList ++ rest, r.2.1, r.2.2) := by
  cases o with
  | none => cases q
  | some r => obtain ⟨v, h, nx⟩ := r; exact ⟨_, rfl, to_inj q⟩
section SM
variable {p : Program} {l : Launch} {e : Env} {R : Room} {s : State} {m : MethodId} {args : Array Value} {below : List Frame} {meth : Method} {c : Code} {Q : State → Prop} {D : va_G} {ad dA : Nat → Nat} {sz k d : Nat} {n0 : AN} {call : Nat → List Value → AH → AN → Option AR} {pc len : Nat} {ls st : List Value} {h : AH} {nx : AN} {f : AF}

theorem am_run {pc : Nat} {cls : Array Slot} {st0 rest : List Value} {ls rst : List Value} {r : AR} {H : Heap} {locs : List Loc} {cells slots : Nat} {a : Array Value} (B : am_B p R s m args meth c D ad dA sz k d n0) (hS : am_St D ad dA sz s (mL k) n0 ls h nx cls H locs cells slots) (hm : nx.1 ≤ r.2.2.1 ∧ nx.2 ≤ r.2.2.2)
    (hr : va_Run p l e R s m args below meth c H locs cells slots (r.2.2.1 - nx.1) (r.2.2.2 - nx.2) (F0 m pc cls st0) rest (am_Qc D ad dA sz r a) (am_A sz)) (he : rest = rst.map (sv ad)) (kk : am_W p l e R s m args below meth c Q D ad dA sz k n0 (pc + 3, ls, r.1.toList ++ rst, r.2.1, r.2.2)) : W p l e R s m args below meth c H locs cells slots Q (F0 m pc cls st0) := by
  obtain ⟨hl, hP, hSS, hH, hc1, hc2⟩ := hS
  intro T hT X
  obtain ⟨v, st₀, t, T', L, h0, X', hL, e1, e2, ⟨g1, g2, g3, g4⟩, st⟩ := hr T hT X
  obtain ⟨f1, f2⟩ := g4
  rw [h0] at f1 f2
  have hv : v = r.1.map (sv ad) := Outcome.returned.inj g1
  have hS1 : va_S (am_A sz) s.heap T'.heap (locs ++ L) := by
    refine ⟨Nat.le_trans hSS.1 (by rw [e1]; exact f1), fun q h1 h2 => ?_, fun q hq => ?_⟩
    · rw [e1, f2 q (Nat.lt_of_lt_of_le h1 hSS.1) h2]
      exact hSS.2.1 q h1 h2
    · rcases List.mem_append.mp hq with z | z
      · exact hSS.2.2 q z
      · exact hL q z
  have hC := B.2.2.2.2.2.1
  have hH1 : am_H ad sz r.2.1 r.2.2 s := g3.moved (by rw [← e2]; exact X'.warmed.alike.symm) (fun q h1 h2 => by
    have h3 : q < s.heap.size := by
      have h4 : sz ≤ s.heap.size := hC.2.1
      have h5 : ¬ sz ≤ q := h2
      omega
    rw [← e1]
    exact (hS1.2.1 q h3 h2).symm)
  obtain ⟨t2, a1, b1⟩ := kk cls T'.heap (locs ++ L) (cells + (r.2.2.1 - nx.1)) (slots + (r.2.2.2 - nx.2)) ⟨hl, by rw [e1]; exact g2, hS1, hH1, by show _ = r.2.2.1; omega, by show _ = r.2.2.2; omega⟩ T' rfl X'
  refine ⟨t2, st t2 ?_, b1⟩
  subst he
  subst hv
  have ee : (List.map (sv ad) (r.1.toList ++ rst)) = (r.1.map (sv ad)).toList ++ rst.map (sv ad) := by
    cases r.1 <;> simp
  rw [← ee]
  exact a1
theorem am_pre {U : State} {H : Heap} {locs : List Loc} {as : List Value} (hC : am_C D ad dA sz s) (hP : va_P D classes (am_ws ad dA h nx.1) H) (hSS : va_S (am_A sz) s.heap H locs) (hH : am_H ad sz h nx s) (hz : H.size = sz + nx.1) (hU : U.heap = H) (hW : s.WarmedH U.vm) : am_Pc D ad dA sz as h nx (as.map (sv ad)).toArray U := by
  subst hU
  have hq : ∀ q : Nat, q < s.heap.size → ¬ am_A sz q → U.heap[q]? = s.heap[q]? := hSS.2.1
  exact ⟨rfl, hP, hz, hC.moved hW.alike (fun _ _ _ _ z => va_Nw.warmM hW z) (fun _ _ _ _ z => vk_R.warm hW z) hq (by omega), hH.moved hW.alike hq⟩
theorem sm_new {ix : Nat} (B : am_B p R s m args meth c D ad dA sz k d n0) (hd : decode (mC k) pc = .ok (.new ix, len)) (hs : am_do call k (.new ix) len pc ls st h nx = some (.inl f)) (hr : f.2.2.2.2.1 ≤ n0.1 + R.cells ∧ f.2.2.2.2.2 ≤ n0.2 + R.slots) (kk : am_W p l e R s m args below meth c Q D ad dA sz k n0 f) : am_W p l e R s m args below meth c Q D ad dA sz k n0 (pc, ls, st, h, nx) := by
  obtain ⟨hx, hb, hml, hown, hts, hC, hin, hfr, hlo, hs0⟩ := B
  intro cls H locs cells slots hS
  obtain ⟨hl, hP, hSS, hH, hc1, hc2⟩ := id hS
  replace hs := if_so hs
  obtain ⟨rfl, hs⟩ := hs
  split at hs
  · rename_i ci hk
    obtain rfl := to_inj hs
    obtain ⟨⟨j1, g1⟩, ⟨j2, g2⟩, ⟨j3, g3⟩, hci⟩ := lkC_spec hk
    have e9 : n0.1 + cells = nx.1 := hc1
    have e8 : n0.2 + slots = nx.2 := hc2
    have r1 : nx.1 + 1 ≤ n0.1 + R.cells := hr.1
    have r2 : nx.2 + cN ci ≤ n0.2 + R.slots := hr.2
    refine va_new (fs := (dfl ci).map (sv ad)) hx hb hts (cls_in hci) (cY ci) (fun z hz => cY_at hci hz) hown (hts _ (gw_at g1 rfl)) (hts _ (gw_at g2 rfl)) (hts _ (gw_at g3 rfl)) hC.2.2.1 hP (am_D hC.1 _ _) hSS (fun q hq => Nat.le_trans hC.2.1 hq) (classes_at hci) (fun z hz => dfl_at ad ci z hz) (by omega) (by omega) hd (fun q H1 hP1 hD1 hS1 => ?_)
    refine W_size (fun hz => ?_)
    have e9 : n0.1 + cells = nx.1 := hc1
    have hz1 : H1.size ≤ sz + nx.1 + 1 := by rw [hs0] at hz; omega
    have hq := am_newaddr hC.1 hP1 hD1 hz1
    subst hq
    refine kk _ _ _ _ _ ⟨hl, ?_, hS1, hH.push (fun n f z => by cases z) _, by show _ = nx.1 + 1; omega, by show _ = nx.2 + cN ci; omega⟩
    show va_P D classes (am_ws ad dA (put h (16 + nx.1) (.inr (ci, dfl ci))) (nx.1 + 1)) H1
    rw [← am_ws_push]
    exact hP1
  · cases hs
theorem sm_newarray {t : ArrayType} (B : am_B p R s m args meth c D ad dA sz k d n0) (hd : decode (mC k) pc = .ok (.newarray t, len)) (hs : am_do call k (.newarray t) len pc ls st h nx = some (.inl f)) (hr : f.2.2.2.2.1 ≤ n0.1 + R.cells ∧ f.2.2.2.2.2 ≤ n0.2 + R.slots) (kk : am_W p l e R s m args below meth c Q D ad dA sz k n0 f) : am_W p l e R s m args below meth c Q D ad dA sz k n0 (pc, ls, st, h, nx) := by
  obtain ⟨hx, hb, hml, hown, hts, hC, hin, hfr, hlo, hs0⟩ := B
  intro cls H locs cells slots hS
  obtain ⟨hl, hP, hSS, hH, hc1, hc2⟩ := id hS
  replace hs := if_so hs
  obtain ⟨rfl, hs⟩ := hs
  replace hs := i1_some hs
  obtain ⟨a, r, rfl, hs⟩ := hs
  split at hs
  · cases hs
  · rename_i hn
    have hn2 : a.toNatClampNeg ≤ 10000 := by rcases Nat.lt_or_ge 10000 a.toNatClampNeg with z | z; exact absurd (Or.inr z) hn; exact z
    have e9 : n0.1 + cells = nx.1 := hc1
    have e8 : n0.2 + slots = nx.2 := hc2
    cases t with
    | int =>
      obtain rfl := to_inj hs
      have r1 : nx.1 + 1 ≤ n0.1 + R.cells := hr.1
      have r2 : nx.2 + a.toNatClampNeg ≤ n0.2 + R.slots := hr.2
      refine va_newa (atype := .int) hx hb (hts _ ac_int) rfl hC.2.2.1 hP (am_D hC.1 _ _) hSS (fun q hq => Nat.le_trans hC.2.1 hq) (a0 := (a.toNatClampNeg, .inl fun _ => 0)) (fun cA => rfl) (fun z => hn (Or.inl z)) rfl (by show _ * 4 ≤ _; omega) (by omega) (by omega) hd (fun q cA H1 hK1 hP1 hD1 hS1 => ?_)
      refine W_size (fun hz => ?_)
      have e9 : n0.1 + cells = nx.1 := hc1
      have hz1 : H1.size ≤ sz + nx.1 + 1 := by rw [hs0] at hz; omega
      have hq := am_newaddr hC.1 hP1 hD1 hz1
      subst hq
      have hcA := am_newcls (t := 0) hC.2.2.1 hK1 rfl
      subst hcA
      refine kk _ _ _ _ _ ⟨hl, ?_, hS1, hH.push (fun n f z => by cases z) _, by show _ = nx.1 + 1; omega, by show _ = nx.2 + a.toNatClampNeg; omega⟩
      show va_P D classes (am_ws ad dA (put h (16 + nx.1) (.inl (0, a.toNatClampNeg, .inl fun _ => 0))) (nx.1 + 1)) H1
      rw [← am_ws_push]
      exact hP1
    | boolean =>
      obtain rfl := to_inj hs
      have r1 : nx.1 + 1 ≤ n0.1 + R.cells := hr.1
      have r2 : nx.2 + a.toNatClampNeg ≤ n0.2 + R.slots := hr.2
      refine va_newa (atype := .boolean) hx hb (hts _ ac_bool) rfl hC.2.2.1 hP (am_D hC.1 _ _) hSS (fun q hq => Nat.le_trans hC.2.1 hq) (a0 := (a.toNatClampNeg, .inl fun _ => 0)) (fun cA => rfl) (fun z => hn (Or.inl z)) rfl (by show _ * 1 ≤ _; omega) (by omega) (by omega) hd (fun q cA H1 hK1 hP1 hD1 hS1 => ?_)
      refine W_size (fun hz => ?_)
      have e9 : n0.1 + cells = nx.1 := hc1
      have hz1 : H1.size ≤ sz + nx.1 + 1 := by rw [hs0] at hz; omega
      have hq := am_newaddr hC.1 hP1 hD1 hz1
      subst hq
      have hcA := am_newcls (t := 1) hC.2.2.1 hK1 rfl
      subst hcA
      refine kk _ _ _ _ _ ⟨hl, ?_, hS1, hH.push (fun n f z => by cases z) _, by show _ = nx.1 + 1; omega, by show _ = nx.2 + a.toNatClampNeg; omega⟩
      show va_P D classes (am_ws ad dA (put h (16 + nx.1) (.inl (1, a.toNatClampNeg, .inl fun _ => 0))) (nx.1 + 1)) H1
      rw [← am_ws_push]
      exact hP1
    | char =>
      obtain rfl := to_inj hs
      have r1 : nx.1 + 1 ≤ n0.1 + R.cells := hr.1
      have r2 : nx.2 + a.toNatClampNeg ≤ n0.2 + R.slots := hr.2
      refine va_newa (atype := .char) hx hb (hts _ ac_char) rfl hC.2.2.1 hP (am_D hC.1 _ _) hSS (fun q hq => Nat.le_trans hC.2.1 hq) (a0 := (a.toNatClampNeg, .inl fun _ => 0)) (fun cA => rfl) (fun z => hn (Or.inl z)) rfl (by show _ * 2 ≤ _; omega) (by omega) (by omega) hd (fun q cA H1 hK1 hP1 hD1 hS1 => ?_)
      refine W_size (fun hz => ?_)
      have e9 : n0.1 + cells = nx.1 := hc1
      have hz1 : H1.size ≤ sz + nx.1 + 1 := by rw [hs0] at hz; omega
      have hq := am_newaddr hC.1 hP1 hD1 hz1
      subst hq
      have hcA := am_newcls (t := 2) hC.2.2.1 hK1 rfl
      subst hcA
      refine kk _ _ _ _ _ ⟨hl, ?_, hS1, hH.push (fun n f z => by cases z) _, by show _ = nx.1 + 1; omega, by show _ = nx.2 + a.toNatClampNeg; omega⟩
      show va_P D classes (am_ws ad dA (put h (16 + nx.1) (.inl (2, a.toNatClampNeg, .inl fun _ => 0))) (nx.1 + 1)) H1
      rw [← am_ws_push]
      exact hP1
    | _ => cases hs
theorem sm_anewarray {ix : Nat} (B : am_B p R s m args meth c D ad dA sz k d n0) (hd : decode (mC k) pc = .ok (.anewarray ix, len)) (hs : am_do call k (.anewarray ix) len pc ls st h nx = some (.inl f)) (hr : f.2.2.2.2.1 ≤ n0.1 + R.cells ∧ f.2.2.2.2.2 ≤ n0.2 + R.slots) (kk : am_W p l e R s m args below meth c Q D ad dA sz k n0 f) : am_W p l e R s m args below meth c Q D ad dA sz k n0 (pc, ls, st, h, nx) := by
  obtain ⟨hx, hb, hml, hown, hts, hC, hin, hfr, hlo, hs0⟩ := B
  intro cls H locs cells slots hS
  obtain ⟨hl, hP, hSS, hH, hc1, hc2⟩ := id hS
  replace hs := if_so hs
  obtain ⟨rfl, hs⟩ := hs
  replace hs := i1_some hs
  obtain ⟨a, r, rfl, hs⟩ := hs
  split at hs
  · rename_i ci hk
    split at hs
    · cases hs
    · rename_i hn
      obtain rfl := to_inj hs
      have hn2 : a.toNatClampNeg ≤ 10000 := by rcases Nat.lt_or_ge 10000 a.toNatClampNeg with z | z; exact absurd (Or.inr (Or.inl z)) hn; exact z
      have hn3 : tcO ci < 7 := by rcases Nat.lt_or_ge (tcO ci) 7 with z | z; exact z; exact absurd (Or.inr (Or.inr z)) hn
      have e9 : n0.1 + cells = nx.1 := hc1
      have e8 : n0.2 + slots = nx.2 := hc2
      have r1 : nx.1 + 1 ≤ n0.1 + R.cells := hr.1
      obtain ⟨⟨j1, g1⟩, -, -, -⟩ := lkC_spec hk
      rcases tcO_cases hn3 with rfl | rfl | rfl | rfl
      · have r2 : nx.2 + a.toNatClampNeg ≤ n0.2 + R.slots := hr.2
        refine va_newq hx hb hown (hts _ (gw_at g1 rfl)) hC.2.2.2.1.1 hC.2.2.1 hP (am_D hC.1 _ _) hSS (fun q hq => Nat.le_trans hC.2.1 hq) (fun z => hn (Or.inl z)) rfl (by omega) (by omega) (by omega) hd (fun q cA H1 hK1 hP1 hD1 hS1 => ?_)
        refine W_size (fun hz => ?_)
        have e9 : n0.1 + cells = nx.1 := hc1
        have hz1 : H1.size ≤ sz + nx.1 + 1 := by rw [hs0] at hz; omega
        have hq := am_newaddr hC.1 hP1 hD1 hz1
        subst hq
        have hcA := am_newcls (t := 3) hC.2.2.1 hK1 rfl
        subst hcA
        refine kk _ _ _ _ _ ⟨hl, ?_, hS1, hH.push (fun n f z => by cases z) _, by show _ = nx.1 + 1; omega, by show _ = nx.2 + a.toNatClampNeg; omega⟩
        show va_P D classes (am_ws ad dA (put h (16 + nx.1) (.inl (3, a.toNatClampNeg, .inr (.inr (.inr (.inr fun _ => none)))))) (nx.1 + 1)) H1
        rw [← am_ws_push]
        exact hP1
      · have r2 : nx.2 + a.toNatClampNeg ≤ n0.2 + R.slots := hr.2
        refine va_newq hx hb hown (hts _ (gw_at g1 rfl)) hC.2.2.2.1.2.1 hC.2.2.1 hP (am_D hC.1 _ _) hSS (fun q hq => Nat.le_trans hC.2.1 hq) (fun z => hn (Or.inl z)) rfl (by omega) (by omega) (by omega) hd (fun q cA H1 hK1 hP1 hD1 hS1 => ?_)
        refine W_size (fun hz => ?_)
        have e9 : n0.1 + cells = nx.1 := hc1
        have hz1 : H1.size ≤ sz + nx.1 + 1 := by rw [hs0] at hz; omega
        have hq := am_newaddr hC.1 hP1 hD1 hz1
        subst hq
        have hcA := am_newcls (t := 4) hC.2.2.1 hK1 rfl
        subst hcA
        refine kk _ _ _ _ _ ⟨hl, ?_, hS1, hH.push (fun n f z => by cases z) _, by show _ = nx.1 + 1; omega, by show _ = nx.2 + a.toNatClampNeg; omega⟩
        show va_P D classes (am_ws ad dA (put h (16 + nx.1) (.inl (4, a.toNatClampNeg, .inr (.inr (.inr (.inr fun _ => none)))))) (nx.1 + 1)) H1
        rw [← am_ws_push]
        exact hP1
      · have r2 : nx.2 + a.toNatClampNeg ≤ n0.2 + R.slots := hr.2
        refine va_newq hx hb hown (hts _ (gw_at g1 rfl)) hC.2.2.2.1.2.2.1 hC.2.2.1 hP (am_D hC.1 _ _) hSS (fun q hq => Nat.le_trans hC.2.1 hq) (fun z => hn (Or.inl z)) rfl (by omega) (by omega) (by omega) hd (fun q cA H1 hK1 hP1 hD1 hS1 => ?_)
        refine W_size (fun hz => ?_)
        have e9 : n0.1 + cells = nx.1 := hc1
        have hz1 : H1.size ≤ sz + nx.1 + 1 := by rw [hs0] at hz; omega
        have hq := am_newaddr hC.1 hP1 hD1 hz1
        subst hq
        have hcA := am_newcls (t := 5) hC.2.2.1 hK1 rfl
        subst hcA
        refine kk _ _ _ _ _ ⟨hl, ?_, hS1, hH.push (fun n f z => by cases z) _, by show _ = nx.1 + 1; omega, by show _ = nx.2 + a.toNatClampNeg; omega⟩
        show va_P D classes (am_ws ad dA (put h (16 + nx.1) (.inl (5, a.toNatClampNeg, .inr (.inr (.inr (.inr fun _ => none)))))) (nx.1 + 1)) H1
        rw [← am_ws_push]
        exact hP1
      · have r2 : nx.2 + a.toNatClampNeg ≤ n0.2 + R.slots := hr.2
        refine va_newq hx hb hown (hts _ (gw_at g1 rfl)) hC.2.2.2.1.2.2.2 hC.2.2.1 hP (am_D hC.1 _ _) hSS (fun q hq => Nat.le_trans hC.2.1 hq) (fun z => hn (Or.inl z)) rfl (by omega) (by omega) (by omega) hd (fun q cA H1 hK1 hP1 hD1 hS1 => ?_)
        refine W_size (fun hz => ?_)
        have e9 : n0.1 + cells = nx.1 := hc1
        have hz1 : H1.size ≤ sz + nx.1 + 1 := by rw [hs0] at hz; omega
        have hq := am_newaddr hC.1 hP1 hD1 hz1
        subst hq
        have hcA := am_newcls (t := 6) hC.2.2.1 hK1 rfl
        subst hcA
        refine kk _ _ _ _ _ ⟨hl, ?_, hS1, hH.push (fun n f z => by cases z) _, by show _ = nx.1 + 1; omega, by show _ = nx.2 + a.toNatClampNeg; omega⟩
        show va_P D classes (am_ws ad dA (put h (16 + nx.1) (.inl (6, a.toNatClampNeg, .inr (.inr (.inr (.inr fun _ => none)))))) (nx.1 + 1)) H1
        rw [← am_ws_push]
        exact hP1
  · cases hs
theorem sm_invokevirtual {ix : Nat} (B : am_B p R s m args meth c D ad dA sz k d n0) (hd : decode (mC k) pc = .ok (.invokevirtual ix, len)) (hs : am_do call k (.invokevirtual ix) len pc ls st h nx = some (.inl f)) (hr : f.2.2.2.2.1 ≤ n0.1 + R.cells ∧ f.2.2.2.2.2 ≤ n0.2 + R.slots) (hc : ∀ (k' : Nat) (as : List Value) (r : AR), k' < kLaw → call k' as h nx = some r → (nx.1 ≤ r.2.2.1 ∧ nx.2 ≤ r.2.2.2) ∧ am_K l D ad dA sz d k' as h nx r) (kk : am_W p l e R s m args below meth c Q D ad dA sz k n0 f) : am_W p l e R s m args below meth c Q D ad dA sz k n0 (pc, ls, st, h, nx) := by
  obtain ⟨hx, hb, hml, hown, hts, hC, hin, hfr, hlo, hs0⟩ := B
  intro cls H locs cells slots hS
  obtain ⟨hl, hP, hSS, hH, hc1, hc2⟩ := id hS
  replace hs := if_so hs
  obtain ⟨rfl, hs⟩ := hs
  split at hs
  · rename_i k1 hk
    obtain ⟨jl, jt, js, -, hck0⟩ := lkM_spec hk
    simp only [tM_ck, Bool.and_eq_true, decide_eq_true_eq] at hck0
    obtain ⟨⟨⟨c1, c2⟩, c3⟩, hkl⟩ := hck0
    split at hs
    · rename_i hstr
      split at hs
      · rename_i a r hdr
        replace hs := if_so hs
        obtain ⟨⟨hck, hrl⟩, hs⟩ := hs
        obtain ⟨r0, e0, rfl⟩ := aft_some hs
        obtain ⟨hmono, hK0⟩ := hc k1 _ r0 hkl e0
        have e9 : n0.1 + cells = nx.1 := hc1
        have e8 : n0.2 + slots = nx.2 := hc2
        refine W_size (fun hz => ?_)
        have hz0 : H.size = sz + nx.1 := by have z1 := am_size hC.1 hP (Nat.le_trans hC.2.1 hSS.1); have z1 : sz + nx.1 ≤ H.size := z1; rw [hs0] at hz; omega
        have r1 : r0.2.2.1 ≤ n0.1 + R.cells := hr.1
        have r2 : r0.2.2.2 ≤ n0.2 + R.slots := hr.2
        have hst : st.map (sv ad) = (((st.take (mA k1)).reverse).map (sv ad)).reverse ++ .ref (ad a) :: r.map (sv ad) := by
          rw [← List.map_reverse, List.reverse_reverse]
          conv => lhs; rw [← List.take_append_drop (mA k1) st, List.map_append, hdr]
          rfl
        have hlen : ((((st.take (mA k1)).reverse).map (sv ad))).length = mA k1 := by
          rw [List.length_map, List.length_reverse, List.length_take]
          have z := congrArg List.length hdr
          rw [List.length_drop, List.length_cons] at z
          omega
        obtain ⟨mf1, mf2, mf3, mf4, mf5, mf6⟩ := m_facts hkl
        obtain ⟨jq, mf1⟩ := mf1
        have hcls : (mY k1).cls = "java/lang/String" := by rcases hstr with rfl | rfl <;> decide +kernel
        have hrecv : ∃ cellB : Cell, H[ad a]? = some cellB ∧ cellB.vm.isStatics = false ∧ s.vm.findClass (mY k1).cls = some cellB.cls := by
          rw [hcls]
          obtain ⟨⟨adV, hv1⟩, -⟩ := hC.2.2.2.2.2.2
          simp only [isS, Bool.and_eq_true, decide_eq_true_eq] at hck
          have h9 := vk_recv (i := a - 4) hv1 (by omega) hSS
          rw [show 4 + (a - 4) = a from Nat.add_sub_cancel' hck.1] at h9
          exact h9
        refine am_run ⟨hx, hb, hml, hown, hts, hC, hin, hfr, hlo, hs0⟩ hS hmono (va_runV (rm := am_rm d (r0.2.2.1 - nx.1) (r0.2.2.2 - nx.2)) ⟨hx, hb, hml, hown, hts⟩ hK0 (cwV (ws := mW k1) (mA k1) hts ?_ rfl rfl rfl ⟨rfl, mf3.1, mf3.2, mf5⟩ ⟨hfr, by show 8 + (mL k1 + 11) + 64 * d ≤ R.locals; omega⟩) ⟨am_blind _ _ _ _ _ _ _, hrecv, fun U hU hW => am_pre hC hP hSS hH hz0 hU hW⟩ rfl hlen hl.1 hst (lv_room (cat_sum ad r hrl)) hd ⟨by omega, by omega⟩) rfl kk
        intro w hw
        unfold wsV at hw
        rcases List.mem_append.mp hw with hw | hw
        · simp only [List.mem_cons, List.not_mem_nil, or_false] at hw
          rcases hw with rfl | rfl | rfl | rfl
          · exact gw_good _ (gw_at c1 rfl)
          · exact gw_good _ (gw_at c2 rfl)
          · exact gw_good _ (gw_at c3 rfl)
          · exact gw_good _ (gw_at mf1 rfl)
        · exact mW_good hkl w hw
      · cases hs
    · split at hs
      · rename_i a r hdr
        replace hs := if_so hs
        obtain ⟨⟨hck, hrl⟩, hs⟩ := hs
        obtain ⟨r0, e0, rfl⟩ := aft_some hs
        obtain ⟨hmono, hK0⟩ := hc k1 _ r0 hkl e0
        have e9 : n0.1 + cells = nx.1 := hc1
        have e8 : n0.2 + slots = nx.2 := hc2
        refine W_size (fun hz => ?_)
        have hz0 : H.size = sz + nx.1 := by have z1 := am_size hC.1 hP (Nat.le_trans hC.2.1 hSS.1); have z1 : sz + nx.1 ≤ H.size := z1; rw [hs0] at hz; omega
        have r1 : r0.2.2.1 ≤ n0.1 + R.cells := hr.1
        have r2 : r0.2.2.2 ≤ n0.2 + R.slots := hr.2
        have hst : st.map (sv ad) = (((st.take (mA k1)).reverse).map (sv ad)).reverse ++ .ref (ad a) :: r.map (sv ad) := by
          rw [← List.map_reverse, List.reverse_reverse]
          conv => lhs; rw [← List.take_append_drop (mA k1) st, List.map_append, hdr]
          rfl
        have hlen : ((((st.take (mA k1)).reverse).map (sv ad))).length = mA k1 := by
          rw [List.length_map, List.length_reverse, List.length_take]
          have z := congrArg List.length hdr
          rw [List.length_drop, List.length_cons] at z
          omega
        obtain ⟨mf1, mf2, mf3, mf4, mf5, mf6⟩ := m_facts hkl
        obtain ⟨jq, mf1⟩ := mf1
        obtain ⟨hck, hci⟩ := hck
        obtain ⟨fs, e4⟩ := ck_some hck
        obtain ⟨i, hi, rfl⟩ := am_obj hH e4 hci
        have he := am_ws_at (ad := ad) (dA := dA) (h := h) hi
        rw [e4] at he
        have hrecv := va_recv hC.2.2.1 hP (classes_at hci) he
        rw [show (oN (mO k1), cT (mO k1), cN (mO k1)).1 = (mY k1).cls from mf2.symm] at hrecv
        refine am_run ⟨hx, hb, hml, hown, hts, hC, hin, hfr, hlo, hs0⟩ hS hmono (va_runV (rm := am_rm d (r0.2.2.1 - nx.1) (r0.2.2.2 - nx.2)) ⟨hx, hb, hml, hown, hts⟩ hK0 (cwV (ws := mW k1) (mA k1) hts ?_ rfl rfl rfl ⟨rfl, mf3.1, mf3.2, mf5⟩ ⟨hfr, by show 8 + (mL k1 + 11) + 64 * d ≤ R.locals; omega⟩) ⟨am_blind _ _ _ _ _ _ _, hrecv, fun U hU hW => am_pre hC hP hSS hH hz0 hU hW⟩ rfl hlen hl.1 hst (lv_room (cat_sum ad r hrl)) hd ⟨by omega, by omega⟩) rfl kk
        intro w hw
        unfold wsV at hw
        rcases List.mem_append.mp hw with hw | hw
        · simp only [List.mem_cons, List.not_mem_nil, or_false] at hw
          rcases hw with rfl | rfl | rfl | rfl
          · exact gw_good _ (gw_at c1 rfl)
          · exact gw_good _ (gw_at c2 rfl)
          · exact gw_good _ (gw_at c3 rfl)
          · exact gw_good _ (gw_at mf1 rfl)
        · exact mW_good hkl w hw
      · cases hs
  · cases hs
theorem sm_invokestatic {ix : Nat} (B : am_B p R s m args meth c D ad dA sz k d n0) (hd : decode (mC k) pc = .ok (.invokestatic ix, len)) (hs : am_do call k (.invokestatic ix) len pc ls st h nx = some (.inl f)) (hr : f.2.2.2.2.1 ≤ n0.1 + R.cells ∧ f.2.2.2.2.2 ≤ n0.2 + R.slots) (hc : ∀ (k' : Nat) (as : List Value) (r : AR), k' < kLaw → call k' as h nx = some r → (nx.1 ≤ r.2.2.1 ∧ nx.2 ≤ r.2.2.2) ∧ am_K l D ad dA sz d k' as h nx r) (kk : am_W p l e R s m args below meth c Q D ad dA sz k n0 f) : am_W p l e R s m args below meth c Q D ad dA sz k n0 (pc, ls, st, h, nx) := by
  obtain ⟨hx, hb, hml, hown, hts, hC, hin, hfr, hlo, hs0⟩ := B
  intro cls H locs cells slots hS
  obtain ⟨hl, hP, hSS, hH, hc1, hc2⟩ := id hS
  replace hs := if_so hs
  obtain ⟨rfl, hs⟩ := hs
  split at hs
  · rename_i k1 hk
    obtain ⟨jl, jt, js, hmem, hck0⟩ := lkM_spec hk
    simp only [tM_ck, Bool.and_eq_true, decide_eq_true_eq] at hck0
    obtain ⟨⟨c1, c2⟩, hkl⟩ := hck0
    replace hs := if_so hs
    obtain ⟨⟨hle, hrl⟩, hs⟩ := hs
    obtain ⟨r0, e0, rfl⟩ := aft_some hs
    obtain ⟨hmono, hK0⟩ := hc k1 _ r0 hkl e0
    have e9 : n0.1 + cells = nx.1 := hc1
    have e8 : n0.2 + slots = nx.2 := hc2
    refine W_size (fun hz => ?_)
    have hz0 : H.size = sz + nx.1 := by have z1 := am_size hC.1 hP (Nat.le_trans hC.2.1 hSS.1); have z1 : sz + nx.1 ≤ H.size := z1; rw [hs0] at hz; omega
    have r1 : r0.2.2.1 ≤ n0.1 + R.cells := hr.1
    have r2 : r0.2.2.2 ≤ n0.2 + R.slots := hr.2
    obtain ⟨mf1, mf2, mf3, mf4, mf5, mf6⟩ := m_facts hkl
    obtain ⟨jq, mf1⟩ := mf1
    have hst : st.map (sv ad) = (((st.take (mA k1)).reverse).map (sv ad)).reverse ++ (st.drop (mA k1)).map (sv ad) := by
      rw [← List.map_reverse, List.reverse_reverse, ← List.map_append, List.take_append_drop]
    have hlen : ((((st.take (mA k1)).reverse).map (sv ad))).length = mA k1 := by
      rw [List.length_map, List.length_reverse, List.length_take]
      omega
    refine am_run ⟨hx, hb, hml, hown, hts, hC, hin, hfr, hlo, hs0⟩ hS hmono (va_runS (rm := am_rm d (r0.2.2.1 - nx.1) (r0.2.2.2 - nx.2)) ⟨hx, hb, hml, hown, hts⟩ hK0 (va_cwS (ws := mW k1) (mA k1) hts ?_ rfl rfl rfl ⟨mf3.1, mf3.2, mf5⟩ ⟨hfr, by show 8 + (mL k1 + 11) + 64 * d ≤ R.locals; omega⟩) ⟨am_blind _ _ _ _ _ _ _, fun U hU hW => am_pre hC hP hSS hH hz0 hU hW⟩ rfl hlen hl.1 hst (lv_room (cat_sum ad (st.drop (mA k1)) hrl)) hd ⟨by omega, by omega⟩) rfl kk
    intro w hw
    unfold va_wsS at hw
    rcases List.mem_append.mp hw with hw | hw
    · simp only [List.mem_cons, List.not_mem_nil, or_false] at hw
      rcases hw with rfl | rfl | rfl
      · exact gw_good _ (gw_at c1 rfl)
      · exact gw_good _ (gw_at c2 rfl)
      · exact gw_good _ (gw_at mf1 rfl)
    · exact mW_good hkl w hw
  · rename_i k1 hk
    obtain ⟨jl, jt, js, hmem, hck0⟩ := lkM_spec hk
    simp only [tM_ck, Bool.and_eq_true, decide_eq_true_eq] at hck0
    obtain ⟨⟨c1, c2⟩, hkl⟩ := hck0
    have hnw : va_Nw (.methodLinkNest (oN (mO k)) ix (mY k1) "ThirstLead") s := hC.2.2.2.2.1 (mO k, ix, k1) (nest_mem hmem (by decide))
    replace hs := if_so hs
    obtain ⟨⟨hle, hrl⟩, hs⟩ := hs
    obtain ⟨r0, e0, rfl⟩ := aft_some hs
    obtain ⟨hmono, hK0⟩ := hc k1 _ r0 hkl e0
    have e9 : n0.1 + cells = nx.1 := hc1
    have e8 : n0.2 + slots = nx.2 := hc2
    refine W_size (fun hz => ?_)
    have hz0 : H.size = sz + nx.1 := by have z1 := am_size hC.1 hP (Nat.le_trans hC.2.1 hSS.1); have z1 : sz + nx.1 ≤ H.size := z1; rw [hs0] at hz; omega
    have r1 : r0.2.2.1 ≤ n0.1 + R.cells := hr.1
    have r2 : r0.2.2.2 ≤ n0.2 + R.slots := hr.2
    obtain ⟨mf1, mf2, mf3, mf4, mf5, mf6⟩ := m_facts hkl
    obtain ⟨jq, mf1⟩ := mf1
    have hst : st.map (sv ad) = (((st.take (mA k1)).reverse).map (sv ad)).reverse ++ (st.drop (mA k1)).map (sv ad) := by
      rw [← List.map_reverse, List.reverse_reverse, ← List.map_append, List.take_append_drop]
    have hlen : ((((st.take (mA k1)).reverse).map (sv ad))).length = mA k1 := by
      rw [List.length_map, List.length_reverse, List.length_take]
      omega
    exact am_run ⟨hx, hb, hml, hown, hts, hC, hin, hfr, hlo, hs0⟩ hS hmono (va_runSN (rm := am_rm d (r0.2.2.1 - nx.1) (r0.2.2.2 - nx.2)) ⟨hx, hb, hml, hown, hts⟩ hK0 ⟨va_cnB (ws := mW k1) (mA k1) hts (mW_good hkl) rfl rfl rfl hnw (hts _ (gw_at mf1 rfl)) ⟨mf3.1, mf3.2, mf5⟩ ⟨hfr, by show 8 + (mL k1 + 11) + 64 * d ≤ R.locals; omega⟩, hts _ (gw_at c2 rfl), trivial⟩ ⟨am_blind _ _ _ _ _ _ _, fun U hU hW => am_pre hC hP hSS hH hz0 hU hW⟩ rfl hlen hl.1 hst (lv_room (cat_sum ad (st.drop (mA k1)) hrl)) hd ⟨by omega, by omega⟩) rfl kk
  · rename_i k1 hk
    obtain ⟨jl, jt, js, hmem, hck0⟩ := lkM_spec hk
    simp only [tM_ck, Bool.and_eq_true, decide_eq_true_eq] at hck0
    obtain ⟨⟨c1, c2⟩, c3⟩ := hck0
    split at hs
    · rename_i n dp a sp a0 r
      replace hs := if_so hs
      obtain ⟨hrl, hs⟩ := hs
      split at hs
      · rename_i h1 hp
        obtain rfl := to_inj hs
        obtain ⟨n0a, n1a, fa, ga, e1, e2, hcond, rfl⟩ := cpA_some hp
        obtain ⟨⟨b1, b2, b3⟩, b4, b5⟩ := hcond
        obtain ⟨q, hq, rfl⟩ := am_arr hH e1 (by decide)
        obtain ⟨q2, hq2, rfl⟩ := am_arr hH e2 (by decide)
        have he := am_ws_at (ad := ad) (dA := dA) (h := h) hq
        rw [e1] at he
        have he2 := am_ws_at (ad := ad) (dA := dA) (h := h) hq2
        rw [e2] at he2
        have hcs := cat_sum ad r hrl
        refine va_copyi hx hb (by rw [hml]; exact hl.1.symm) hown (hts _ (gw_at c1 rfl)) (hts _ (gw_at c3 rfl)) (hts _ (gw_at c2 rfl)) (hts _ sys_ini) hC.2.2.1 hP (am_D hC.1 _ _) hSS q q2 0 0 he he2 rfl rfl rfl b1 b2 b3 b4 b5 (fun _ _ => rfl) (by omega) (by show _ + (5 + 2 + 11) ≤ _; omega) hd (fun H1 locs1 hP1 hD1 hS1 => kk _ _ _ _ _ ⟨hl, ?_, hS1, hH.set (by omega) (by omega) (fun n f z => by cases z), hc1, hc2⟩)
        rw [← am_ws_set hq2]
        exact hP1
      · cases hs
    · cases hs
  · cases hs
theorem sm_invokespecial {ix : Nat} (B : am_B p R s m args meth c D ad dA sz k d n0) (hd : decode (mC k) pc = .ok (.invokespecial ix, len)) (hs : am_do call k (.invokespecial ix) len pc ls st h nx = some (.inl f)) (hr : f.2.2.2.2.1 ≤ n0.1 + R.cells ∧ f.2.2.2.2.2 ≤ n0.2 + R.slots) (hc : ∀ (k' : Nat) (as : List Value) (r : AR), k' < kLaw → call k' as h nx = some r → (nx.1 ≤ r.2.2.1 ∧ nx.2 ≤ r.2.2.2) ∧ am_K l D ad dA sz d k' as h nx r) (kk : am_W p l e R s m args below meth c Q D ad dA sz k n0 f) : am_W p l e R s m args below meth c Q D ad dA sz k n0 (pc, ls, st, h, nx) := by
  obtain ⟨hx, hb, hml, hown, hts, hC, hin, hfr, hlo, hs0⟩ := B
  intro cls H locs cells slots hS
  obtain ⟨hl, hP, hSS, hH, hc1, hc2⟩ := id hS
  replace hs := if_so hs
  obtain ⟨rfl, hs⟩ := hs
  split at hs
  · rename_i k1 hk
    obtain ⟨jl, jt, js, hmem, hck0⟩ := lkM_spec hk
    simp only [tM_ck, Bool.and_eq_true, decide_eq_true_eq] at hck0
    obtain ⟨c1, c2⟩ := hck0
    split at hs
    · rename_i a r
      replace hs := if_so hs
      obtain ⟨hrl, hs⟩ := hs
      obtain rfl := to_inj hs
      have hcs := cat_sum ad r hrl
      refine W.objInit hx hb hown (hts _ (gw_at c1 rfl)) (hts _ (gw_at c2 rfl)) (hts _ oi_code) rfl (by rw [hml]; exact hl.1) rfl hd (by omega) (by show 2 * 0 + _ + 12 ≤ _; omega) ?_
      exact kk _ _ _ _ _ hS
    · cases hs
  · rename_i k1 hk
    obtain ⟨jl, jt, js, hmem, hck0⟩ := lkM_spec hk
    simp only [tM_ck, Bool.and_eq_true, decide_eq_true_eq] at hck0
    obtain ⟨⟨⟨⟨c1, c2⟩, hkl⟩, hnm⟩, hret⟩ := hck0
    split at hs
    · rename_i a r hdr
      replace hs := if_so hs
      obtain ⟨hrl, hs⟩ := hs
      obtain ⟨r0, e0, rfl⟩ := aft_some hs
      obtain ⟨hmono, hK0⟩ := hc k1 _ r0 hkl e0
      have e9 : n0.1 + cells = nx.1 := hc1
      have e8 : n0.2 + slots = nx.2 := hc2
      refine W_size (fun hz => ?_)
      have hz0 : H.size = sz + nx.1 := by have z1 := am_size hC.1 hP (Nat.le_trans hC.2.1 hSS.1); have z1 : sz + nx.1 ≤ H.size := z1; rw [hs0] at hz; omega
      have r1 : r0.2.2.1 ≤ n0.1 + R.cells := hr.1
      have r2 : r0.2.2.2 ≤ n0.2 + R.slots := hr.2
      obtain ⟨mf1, mf2, mf3, mf4, mf5, mf6⟩ := m_facts hkl
      obtain ⟨jq, mf1⟩ := mf1
      have hst : st.map (sv ad) = (((st.take (mA k1)).reverse).map (sv ad)).reverse ++ .ref (ad a) :: r.map (sv ad) := by
        rw [← List.map_reverse, List.reverse_reverse]
        conv => lhs; rw [← List.take_append_drop (mA k1) st, List.map_append, hdr]
        rfl
      have hlen : ((((st.take (mA k1)).reverse).map (sv ad))).length = mA k1 := by
        rw [List.length_map, List.length_reverse, List.length_take]
        have z := congrArg List.length hdr
        rw [List.length_drop, List.length_cons] at z
        omega
      have hW2 : mW k1 = Cond.code (mY k1) (mC k1) (mL k1) none :: gw := by unfold mW; rw [hret]
      exact am_run ⟨hx, hb, hml, hown, hts, hC, hin, hfr, hlo, hs0⟩ hS hmono (va_runI (rm := am_rm d (r0.2.2.1 - nx.1) (r0.2.2.2 - nx.2)) ⟨hx, hb, hml, hown, hts⟩ hK0 (cwI (ws := mW k1) (mA k1) hts (mW_good hkl) hW2 rfl rfl (hts _ (gw_at mf1 rfl)) (hts _ (gw_at c1 rfl)) (hts _ (gw_at c2 rfl)) hnm ⟨mf3.1, mf3.2, mf5⟩ ⟨hfr, by show 8 + (mL k1 + 11) + 64 * d ≤ R.locals; omega⟩) ⟨am_blind _ _ _ _ _ _ _, fun U hU hW => am_pre hC hP hSS hH hz0 hU hW⟩ rfl hlen hl.1 hst (lv_room (cat_sum ad r hrl)) hd ⟨by omega, by omega⟩) rfl kk
    · cases hs
  · rename_i k1 hk
    obtain ⟨jl, jt, js, hmem, hck0⟩ := lkM_spec hk
    simp only [tM_ck, Bool.and_eq_true, decide_eq_true_eq] at hck0
    obtain ⟨⟨⟨⟨c1, c2⟩, hkl⟩, hnm⟩, hret⟩ := hck0
    have hnw : va_Nw (.methodLinkNest (oN (mO k)) ix (mY k1) "ThirstLead") s := hC.2.2.2.2.1 (mO k, ix, k1) (nest_mem hmem (by decide))
    split at hs
    · rename_i a r hdr
      replace hs := if_so hs
      obtain ⟨hrl, hs⟩ := hs
      obtain ⟨r0, e0, rfl⟩ := aft_some hs
      obtain ⟨hmono, hK0⟩ := hc k1 _ r0 hkl e0
      have e9 : n0.1 + cells = nx.1 := hc1
      have e8 : n0.2 + slots = nx.2 := hc2
      refine W_size (fun hz => ?_)
      have hz0 : H.size = sz + nx.1 := by have z1 := am_size hC.1 hP (Nat.le_trans hC.2.1 hSS.1); have z1 : sz + nx.1 ≤ H.size := z1; rw [hs0] at hz; omega
      have r1 : r0.2.2.1 ≤ n0.1 + R.cells := hr.1
      have r2 : r0.2.2.2 ≤ n0.2 + R.slots := hr.2
      obtain ⟨mf1, mf2, mf3, mf4, mf5, mf6⟩ := m_facts hkl
      obtain ⟨jq, mf1⟩ := mf1
      have hst : st.map (sv ad) = (((st.take (mA k1)).reverse).map (sv ad)).reverse ++ .ref (ad a) :: r.map (sv ad) := by
        rw [← List.map_reverse, List.reverse_reverse]
        conv => lhs; rw [← List.take_append_drop (mA k1) st, List.map_append, hdr]
        rfl
      have hlen : ((((st.take (mA k1)).reverse).map (sv ad))).length = mA k1 := by
        rw [List.length_map, List.length_reverse, List.length_take]
        have z := congrArg List.length hdr
        rw [List.length_drop, List.length_cons] at z
        omega
      have hW2 : mW k1 = Cond.code (mY k1) (mC k1) (mL k1) none :: gw := by unfold mW; rw [hret]
      exact am_run ⟨hx, hb, hml, hown, hts, hC, hin, hfr, hlo, hs0⟩ hS hmono (va_runIN (rm := am_rm d (r0.2.2.1 - nx.1) (r0.2.2.2 - nx.2)) ⟨hx, hb, hml, hown, hts⟩ hK0 ⟨va_cnB (ws := mW k1) (mA k1) hts (mW_good hkl) hW2 rfl rfl hnw (hts _ (gw_at mf1 rfl)) ⟨mf3.1, mf3.2, mf5⟩ ⟨hfr, by show 8 + (mL k1 + 11) + 64 * d ≤ R.locals; omega⟩, hnm, hts _ (gw_at c2 rfl)⟩ ⟨am_blind _ _ _ _ _ _ _, fun U hU hW => am_pre hC hP hSS hH hz0 hU hW⟩ rfl hlen hl.1 hst (lv_room (cat_sum ad r hrl)) hd ⟨by omega, by omega⟩) rfl kk
    · cases hs
  · cases hs
end SM
end
section
section SN
variable {p : Program} {l : Launch} {e : Env} {R : Room} {s : State} {m : MethodId} {args : Array Value} {below : List Frame} {meth : Method} {c : Code} {Q : State → Prop} {D : va_G} {ad dA : Nat → Nat} {sz k d : Nat} {n0 : AN} {call : Nat → List Value → AH → AN → Option AR} {pc len : Nat} {ls st : List Value} {h : AH} {nx : AN} {f : AF}

theorem am_sim {i : Instr} (B : am_B p R s m args meth c D ad dA sz k d n0) (hd : decode (mC k) pc = .ok (i, len)) (hs : am_do call k i len pc ls st h nx = some (.inl f)) (hr : f.2.2.2.2.1 ≤ n0.1 + R.cells ∧ f.2.2.2.2.2 ≤ n0.2 + R.slots) (hc : ∀ (k' : Nat) (as : List Value) (r : AR), k' < kLaw → call k' as h nx = some r → (nx.1 ≤ r.2.2.1 ∧ nx.2 ≤ r.2.2.2) ∧ am_K l D ad dA sz d k' as h nx r) (kk : am_W p l e R s m args below meth c Q D ad dA sz k n0 f) : am_W p l e R s m args below meth c Q D ad dA sz k n0 (pc, ls, st, h, nx) := by
  cases i with
  | iconst _ => exact sm_iconst B hd hs kk
  | bipush _ => exact sm_bipush B hd hs kk
  | sipush _ => exact sm_sipush B hd hs kk
  | lconst _ => exact sm_lconst B hd hs kk
  | iload_n _ => exact sm_iload_n B hd hs kk
  | iload _ => exact sm_iload B hd hs kk
  | aload_n _ => exact sm_aload_n B hd hs kk
  | aload _ => exact sm_aload B hd hs kk
  | lload _ => exact sm_lload B hd hs kk
  | istore_n _ => exact sm_istore_n B hd hs kk
  | istore _ => exact sm_istore B hd hs kk
  | astore_n _ => exact sm_astore_n B hd hs kk
  | astore _ => exact sm_astore B hd hs kk
  | lstore _ => exact sm_lstore B hd hs kk
  | iinc _ _ => exact sm_iinc B hd hs kk
  | iadd => exact sm_iadd B hd hs kk
  | isub => exact sm_isub B hd hs kk
  | imul => exact sm_imul B hd hs kk
  | iand => exact sm_iand B hd hs kk
  | ior => exact sm_ior B hd hs kk
  | ixor => exact sm_ixor B hd hs kk
  | ishl => exact sm_ishl B hd hs kk
  | ishr => exact sm_ishr B hd hs kk
  | iushr => exact sm_iushr B hd hs kk
  | idiv => exact sm_idiv B hd hs kk
  | irem => exact sm_irem B hd hs kk
  | ineg => exact sm_ineg B hd hs kk
  | i2l => exact sm_i2l B hd hs kk
  | i2s => exact sm_i2s B hd hs kk
  | l2i => exact sm_l2i B hd hs kk
  | lneg => exact sm_lneg B hd hs kk
  | ladd => exact sm_ladd B hd hs kk
  | lsub => exact sm_lsub B hd hs kk
  | lcmp => exact sm_lcmp B hd hs kk
  | dup => exact sm_dup B hd hs kk
  | pop => exact sm_pop B hd hs kk
  | dup2 => exact sm_dup2 B hd hs kk
  | goto _ => exact sm_goto B hd hs kk
  | ifCond _ _ => exact sm_ifCond B hd hs kk
  | if_icmp _ _ => exact sm_if_icmp B hd hs kk
  | tableswitch _ _ _ _ => exact sm_tableswitch B hd hs kk
  | lookupswitch _ _ => exact sm_lookupswitch B hd hs kk
  | getfield _ => exact sm_getfield B hd hs kk
  | putfield _ => exact sm_putfield B hd hs kk
  | getstatic _ => exact sm_getstatic B hd hs kk
  | ldc _ => exact sm_ldc B hd hs kk
  | ldc_w _ => exact sm_ldc_w B hd hs kk
  | iaload => exact sm_iaload B hd hs kk
  | baload => exact sm_baload B hd hs kk
  | caload => exact sm_caload B hd hs kk
  | aaload => exact sm_aaload B hd hs kk
  | iastore => exact sm_iastore B hd hs kk
  | bastore => exact sm_bastore B hd hs kk
  | castore => exact sm_castore B hd hs kk
  | aastore => exact sm_aastore B hd hs kk
  | arraylength => exact sm_arraylength B hd hs kk
  | new _ => exact sm_new B hd hs hr kk
  | newarray _ => exact sm_newarray B hd hs hr kk
  | anewarray _ => exact sm_anewarray B hd hs hr kk
  | invokevirtual _ => exact sm_invokevirtual B hd hs hr hc kk
  | invokestatic _ => exact sm_invokestatic B hd hs hr hc kk
  | invokespecial _ => exact sm_invokespecial B hd hs hr hc kk
  | ireturn =>
    exfalso
    replace hs := if_so hs
    obtain ⟨-, hs⟩ := hs
    split at hs <;> first | (cases hs; done) | (replace hs := if_so hs; obtain ⟨-, hs⟩ := hs; cases hs; done)
  | lreturn =>
    exfalso
    replace hs := if_so hs
    obtain ⟨-, hs⟩ := hs
    split at hs <;> first | (cases hs; done) | (replace hs := if_so hs; obtain ⟨-, hs⟩ := hs; cases hs; done)
  | areturn =>
    exfalso
    replace hs := if_so hs
    obtain ⟨-, hs⟩ := hs
    split at hs <;> first | (cases hs; done) | (replace hs := if_so hs; obtain ⟨-, hs⟩ := hs; cases hs; done)
  | return_ =>
    exfalso
    replace hs := if_so hs
    obtain ⟨-, hs⟩ := hs
    split at hs <;> first | (cases hs; done) | (replace hs := if_so hs; obtain ⟨-, hs⟩ := hs; cases hs; done)
  | _ => cases hs
end SN
theorem to_mono {pc : Nat} {ls st : List Value} {h : AH} {nx n1 : AN} {f : AF} (q : to pc ls st h n1 = some (.inl f)) (hn : nx.1 ≤ n1.1 ∧ nx.2 ≤ n1.2) : nx.1 ≤ f.2.2.2.2.1 ∧ nx.2 ≤ f.2.2.2.2.2 := by
  obtain rfl := to_inj q
  exact hn
theorem am_mono {call : Nat → List Value → AH → AN → Option AR} {k : Nat} {i : Instr} {len pc : Nat} {ls st : List Value} {h : AH} {nx : AN} {f : AF} (hc : ∀ (k' : Nat) (as : List Value) (r : AR), k' < kLaw → call k' as h nx = some r → nx.1 ≤ r.2.2.1 ∧ nx.2 ≤ r.2.2.2) (hs : am_do call k i len pc ls st h nx = some (.inl f)) : nx.1 ≤ f.2.2.2.2.1 ∧ nx.2 ≤ f.2.2.2.2.2 := by
  have rf : nx.1 ≤ nx.1 ∧ nx.2 ≤ nx.2 := ⟨Nat.le_refl _, Nat.le_refl _⟩
  cases i with
  | iconst _ =>
    simp only [am_do, i1, i2, l2, br, swt] at hs
    repeat' split at hs
    all_goals first
      | (cases hs; done)
      | exact to_mono hs rf
  | bipush _ =>
    simp only [am_do, i1, i2, l2, br, swt] at hs
    repeat' split at hs
    all_goals first
      | (cases hs; done)
      | exact to_mono hs rf
  | sipush _ =>
    simp only [am_do, i1, i2, l2, br, swt] at hs
    repeat' split at hs
    all_goals first
      | (cases hs; done)
      | exact to_mono hs rf
  | lconst _ =>
    simp only [am_do, i1, i2, l2, br, swt] at hs
    repeat' split at hs
    all_goals first
      | (cases hs; done)
      | exact to_mono hs rf
  | iload_n _ =>
    simp only [am_do, i1, i2, l2, br, swt] at hs
    repeat' split at hs
    all_goals first
      | (cases hs; done)
      | exact to_mono hs rf
  | iload _ =>
    simp only [am_do, i1, i2, l2, br, swt] at hs
    repeat' split at hs
    all_goals first
      | (cases hs; done)
      | exact to_mono hs rf
  | aload_n _ =>
    simp only [am_do, i1, i2, l2, br, swt] at hs
    repeat' split at hs
    all_goals first
      | (cases hs; done)
      | exact to_mono hs rf
  | aload _ =>
    simp only [am_do, i1, i2, l2, br, swt] at hs
    repeat' split at hs
    all_goals first
      | (cases hs; done)
      | exact to_mono hs rf
  | lload _ =>
    simp only [am_do, i1, i2, l2, br, swt] at hs
    repeat' split at hs
    all_goals first
      | (cases hs; done)
      | exact to_mono hs rf
  | istore_n _ =>
    simp only [am_do, i1, i2, l2, br, swt] at hs
    repeat' split at hs
    all_goals first
      | (cases hs; done)
      | exact to_mono hs rf
  | istore _ =>
    simp only [am_do, i1, i2, l2, br, swt] at hs
    repeat' split at hs
    all_goals first
      | (cases hs; done)
      | exact to_mono hs rf
  | astore_n _ =>
    simp only [am_do, i1, i2, l2, br, swt] at hs
    repeat' split at hs
    all_goals first
      | (cases hs; done)
      | exact to_mono hs rf
  | astore _ =>
    simp only [am_do, i1, i2, l2, br, swt] at hs
    repeat' split at hs
    all_goals first
      | (cases hs; done)
      | exact to_mono hs rf
  | lstore _ =>
    simp only [am_do, i1, i2, l2, br, swt] at hs
    repeat' split at hs
    all_goals first
      | (cases hs; done)
      | exact to_mono hs rf
  | iinc _ _ =>
    simp only [am_do, i1, i2, l2, br, swt] at hs
    repeat' split at hs
    all_goals first
      | (cases hs; done)
      | exact to_mono hs rf
  | iadd =>
    simp only [am_do, i1, i2, l2, br, swt] at hs
    repeat' split at hs
    all_goals first
      | (cases hs; done)
      | exact to_mono hs rf
  | isub =>
    simp only [am_do, i1, i2, l2, br, swt] at hs
    repeat' split at hs
    all_goals first
      | (cases hs; done)
      | exact to_mono hs rf
  | imul =>
    simp only [am_do, i1, i2, l2, br, swt] at hs
    repeat' split at hs
    all_goals first
      | (cases hs; done)
      | exact to_mono hs rf
  | iand =>
    simp only [am_do, i1, i2, l2, br, swt] at hs
    repeat' split at hs
    all_goals first
      | (cases hs; done)
      | exact to_mono hs rf
  | ior =>
    simp only [am_do, i1, i2, l2, br, swt] at hs
    repeat' split at hs
    all_goals first
      | (cases hs; done)
      | exact to_mono hs rf
  | ixor =>
    simp only [am_do, i1, i2, l2, br, swt] at hs
    repeat' split at hs
    all_goals first
      | (cases hs; done)
      | exact to_mono hs rf
  | ishl =>
    simp only [am_do, i1, i2, l2, br, swt] at hs
    repeat' split at hs
    all_goals first
      | (cases hs; done)
      | exact to_mono hs rf
  | ishr =>
    simp only [am_do, i1, i2, l2, br, swt] at hs
    repeat' split at hs
    all_goals first
      | (cases hs; done)
      | exact to_mono hs rf
  | iushr =>
    simp only [am_do, i1, i2, l2, br, swt] at hs
    repeat' split at hs
    all_goals first
      | (cases hs; done)
      | exact to_mono hs rf
  | idiv =>
    simp only [am_do, i1, i2, l2, br, swt] at hs
    repeat' split at hs
    all_goals first
      | (cases hs; done)
      | exact to_mono hs rf
  | irem =>
    simp only [am_do, i1, i2, l2, br, swt] at hs
    repeat' split at hs
    all_goals first
      | (cases hs; done)
      | exact to_mono hs rf
  | ineg =>
    simp only [am_do, i1, i2, l2, br, swt] at hs
    repeat' split at hs
    all_goals first
      | (cases hs; done)
      | exact to_mono hs rf
  | i2l =>
    simp only [am_do, i1, i2, l2, br, swt] at hs
    repeat' split at hs
    all_goals first
      | (cases hs; done)
      | exact to_mono hs rf
  | i2s =>
    simp only [am_do, i1, i2, l2, br, swt] at hs
    repeat' split at hs
    all_goals first
      | (cases hs; done)
      | exact to_mono hs rf
  | l2i =>
    simp only [am_do, i1, i2, l2, br, swt] at hs
    repeat' split at hs
    all_goals first
      | (cases hs; done)
      | exact to_mono hs rf
  | lneg =>
    simp only [am_do, i1, i2, l2, br, swt] at hs
    repeat' split at hs
    all_goals first
      | (cases hs; done)
      | exact to_mono hs rf
  | ladd =>
    simp only [am_do, i1, i2, l2, br, swt] at hs
    repeat' split at hs
    all_goals first
      | (cases hs; done)
      | exact to_mono hs rf
  | lsub =>
    simp only [am_do, i1, i2, l2, br, swt] at hs
    repeat' split at hs
    all_goals first
      | (cases hs; done)
      | exact to_mono hs rf
  | lcmp =>
    simp only [am_do, i1, i2, l2, br, swt] at hs
    repeat' split at hs
    all_goals first
      | (cases hs; done)
      | exact to_mono hs rf
  | dup =>
    simp only [am_do, i1, i2, l2, br, swt] at hs
    repeat' split at hs
    all_goals first
      | (cases hs; done)
      | exact to_mono hs rf
  | pop =>
    simp only [am_do, i1, i2, l2, br, swt] at hs
    repeat' split at hs
    all_goals first
      | (cases hs; done)
      | exact to_mono hs rf
  | dup2 =>
    simp only [am_do, i1, i2, l2, br, swt] at hs
    repeat' split at hs
    all_goals first
      | (cases hs; done)
      | exact to_mono hs rf
  | goto _ =>
    simp only [am_do, i1, i2, l2, br, swt] at hs
    repeat' split at hs
    all_goals first
      | (cases hs; done)
      | exact to_mono hs rf
  | ifCond _ _ =>
    simp only [am_do, i1, i2, l2, br, swt] at hs
    repeat' split at hs
    all_goals first
      | (cases hs; done)
      | exact to_mono hs rf
  | if_icmp _ _ =>
    simp only [am_do, i1, i2, l2, br, swt] at hs
    repeat' split at hs
    all_goals first
      | (cases hs; done)
      | exact to_mono hs rf
  | tableswitch _ _ _ _ =>
    simp only [am_do, i1, i2, l2, br, swt] at hs
    repeat' split at hs
    all_goals first
      | (cases hs; done)
      | exact to_mono hs rf
  | lookupswitch _ _ =>
    simp only [am_do, i1, i2, l2, br, swt] at hs
    repeat' split at hs
    all_goals first
      | (cases hs; done)
      | exact to_mono hs rf
  | getfield _ =>
    simp only [am_do, i1, i2, l2, br, swt] at hs
    repeat' split at hs
    all_goals first
      | (cases hs; done)
      | exact to_mono hs rf
  | putfield _ =>
    simp only [am_do, i1, i2, l2, br, swt] at hs
    repeat' split at hs
    all_goals first
      | (cases hs; done)
      | exact to_mono hs rf
  | getstatic _ =>
    simp only [am_do, i1, i2, l2, br, swt] at hs
    repeat' split at hs
    all_goals first
      | (cases hs; done)
      | exact to_mono hs rf
  | ldc _ =>
    simp only [am_do, i1, i2, l2, br, swt] at hs
    repeat' split at hs
    all_goals first
      | (cases hs; done)
      | exact to_mono hs rf
  | ldc_w _ =>
    simp only [am_do, i1, i2, l2, br, swt] at hs
    repeat' split at hs
    all_goals first
      | (cases hs; done)
      | exact to_mono hs rf
  | iaload =>
    simp only [am_do, i1, i2, l2, br, swt] at hs
    repeat' split at hs
    all_goals first
      | (cases hs; done)
      | exact to_mono hs rf
  | baload =>
    simp only [am_do, i1, i2, l2, br, swt] at hs
    repeat' split at hs
    all_goals first
      | (cases hs; done)
      | exact to_mono hs rf
  | caload =>
    simp only [am_do, i1, i2, l2, br, swt] at hs
    repeat' split at hs
    all_goals first
      | (cases hs; done)
      | exact to_mono hs rf
  | aaload =>
    simp only [am_do, i1, i2, l2, br, swt] at hs
    repeat' split at hs
    all_goals first
      | (cases hs; done)
      | exact to_mono hs rf
  | iastore =>
    simp only [am_do, i1, i2, l2, br, swt] at hs
    repeat' split at hs
    all_goals first
      | (cases hs; done)
      | exact to_mono hs rf
  | bastore =>
    simp only [am_do, i1, i2, l2, br, swt] at hs
    repeat' split at hs
    all_goals first
      | (cases hs; done)
      | exact to_mono hs rf
  | castore =>
    simp only [am_do, i1, i2, l2, br, swt] at hs
    repeat' split at hs
    all_goals first
      | (cases hs; done)
      | exact to_mono hs rf
  | aastore =>
    simp only [am_do, i1, i2, l2, br, swt] at hs
    repeat' split at hs
    all_goals first
      | (cases hs; done)
      | exact to_mono hs rf
  | arraylength =>
    simp only [am_do, i1, i2, l2, br, swt] at hs
    repeat' split at hs
    all_goals first
      | (cases hs; done)
      | exact to_mono hs rf
  | new _ =>
    simp only [am_do, i1, i2, l2, br, swt] at hs
    repeat' split at hs
    all_goals first
      | (cases hs; done)
      | exact to_mono hs ⟨Nat.le_add_right _ _, Nat.le_add_right _ _⟩
  | newarray _ =>
    simp only [am_do, i1, i2, l2, br, swt] at hs
    repeat' split at hs
    all_goals first
      | (cases hs; done)
      | exact to_mono hs ⟨Nat.le_add_right _ _, Nat.le_add_right _ _⟩
  | anewarray _ =>
    simp only [am_do, i1, i2, l2, br, swt] at hs
    repeat' split at hs
    all_goals first
      | (cases hs; done)
      | exact to_mono hs ⟨Nat.le_add_right _ _, Nat.le_add_right _ _⟩
  | invokevirtual ix =>
    simp only [am_do] at hs
    replace hs := if_so hs
    obtain ⟨-, hs⟩ := hs
    split at hs
    all_goals first
      | (cases hs; done)
      | (rename_i k1 hk
         obtain ⟨jl, jt, js, hmem, hck0⟩ := lkM_spec hk
         simp only [tM_ck, Bool.and_eq_true, decide_eq_true_eq] at hck0
         repeat' split at hs
         all_goals first
           | (cases hs; done)
           | exact to_mono hs rf
           | (obtain ⟨r0, e0, rfl⟩ := aft_some hs
              exact hc _ _ r0 (by first | exact hck0.2 | exact hck0.1.2 | exact hck0.1.1.2 | exact hck0.1.1.1.2) e0))
  | invokestatic ix =>
    simp only [am_do] at hs
    replace hs := if_so hs
    obtain ⟨-, hs⟩ := hs
    split at hs
    all_goals first
      | (cases hs; done)
      | (rename_i k1 hk
         obtain ⟨jl, jt, js, hmem, hck0⟩ := lkM_spec hk
         simp only [tM_ck, Bool.and_eq_true, decide_eq_true_eq] at hck0
         repeat' split at hs
         all_goals first
           | (cases hs; done)
           | exact to_mono hs rf
           | (obtain ⟨r0, e0, rfl⟩ := aft_some hs
              exact hc _ _ r0 (by first | exact hck0.2 | exact hck0.1.2 | exact hck0.1.1.2 | exact hck0.1.1.1.2) e0))
  | invokespecial ix =>
    simp only [am_do] at hs
    replace hs := if_so hs
    obtain ⟨-, hs⟩ := hs
    split at hs
    all_goals first
      | (cases hs; done)
      | (rename_i k1 hk
         obtain ⟨jl, jt, js, hmem, hck0⟩ := lkM_spec hk
         simp only [tM_ck, Bool.and_eq_true, decide_eq_true_eq] at hck0
         repeat' split at hs
         all_goals first
           | (cases hs; done)
           | exact to_mono hs rf
           | (obtain ⟨r0, e0, rfl⟩ := aft_some hs
              exact hc _ _ r0 (by first | exact hck0.2 | exact hck0.1.2 | exact hck0.1.1.2 | exact hck0.1.1.1.2) e0))
  | ireturn =>
    exfalso
    replace hs := if_so hs
    obtain ⟨-, hs⟩ := hs
    split at hs <;> first | (cases hs; done) | (replace hs := if_so hs; obtain ⟨-, hs⟩ := hs; cases hs; done)
  | lreturn =>
    exfalso
    replace hs := if_so hs
    obtain ⟨-, hs⟩ := hs
    split at hs <;> first | (cases hs; done) | (replace hs := if_so hs; obtain ⟨-, hs⟩ := hs; cases hs; done)
  | areturn =>
    exfalso
    replace hs := if_so hs
    obtain ⟨-, hs⟩ := hs
    split at hs <;> first | (cases hs; done) | (replace hs := if_so hs; obtain ⟨-, hs⟩ := hs; cases hs; done)
  | return_ =>
    exfalso
    replace hs := if_so hs
    obtain ⟨-, hs⟩ := hs
    split at hs <;> first | (cases hs; done) | (replace hs := if_so hs; obtain ⟨-, hs⟩ := hs; cases hs; done)
  | _ => cases hs
/-- a step that ends a method -/
def am_End (k : Nat) (i : Instr) (len : Nat) (st : List Value) (h : AH) (nx : AN) (r : AR) : Prop := len = 1 ∧ r.2.1 = h ∧ r.2.2 = nx ∧
  ((i = .ireturn ∧ ∃ v ty, st = [.int v] ∧ mR k = some ty ∧ nR ty v = true ∧ r.1 = some (.int v)) ∨ (i = .lreturn ∧ ∃ v, st = [.long v] ∧ mR k = some .long ∧ r.1 = some (.long v)) ∨ (i = .areturn ∧ ∃ v ty, st = [.ref v] ∧ mR k = some ty ∧ refTy ty = true ∧ r.1 = some (.ref v)) ∨ (i = .return_ ∧ st = [] ∧ mR k = none ∧ r.1 = none))
theorem to_nr {pc : Nat} {ls st : List Value} {h : AH} {n1 : AN} {r : AR} (q : to pc ls st h n1 = some (.inr r)) : False := by
  simp only [to, Option.some.injEq, reduceCtorEq] at q
theorem aft_nr {pc : Nat} {ls rest : List Value} {o : Option AR} {r : AR} (q : aft pc ls rest o = some (.inr r)) : False := by
  cases o with
  | none => cases q
  | some x => obtain ⟨v, h, nx⟩ := x; exact to_nr q
theorem am_end {call : Nat → List Value → AH → AN → Option AR} {k : Nat} {i : Instr} {len pc : Nat} {ls st : List Value} {h : AH} {nx : AN} {r : AR} (hs : am_do call k i len pc ls st h nx = some (.inr r)) : am_End k i len st h nx r := by
  cases i with
  | iconst _ =>
    exfalso
    simp only [am_do, i1, i2, l2, br, swt] at hs
    repeat' split at hs
    all_goals first
      | (cases hs; done)
      | exact to_nr hs
      | exact aft_nr hs
  | bipush _ =>
    exfalso
    simp only [am_do, i1, i2, l2, br, swt] at hs
    repeat' split at hs
    all_goals first
      | (cases hs; done)
      | exact to_nr hs
      | exact aft_nr hs
  | sipush _ =>
    exfalso
    simp only [am_do, i1, i2, l2, br, swt] at hs
    repeat' split at hs
    all_goals first
      | (cases hs; done)
      | exact to_nr hs
      | exact aft_nr hs
  | lconst _ =>
    exfalso
    simp only [am_do, i1, i2, l2, br, swt] at hs
    repeat' split at hs
    all_goals first
      | (cases hs; done)
      | exact to_nr hs
      | exact aft_nr hs
  | iload_n _ =>
    exfalso
    simp only [am_do, i1, i2, l2, br, swt] at hs
    repeat' split at hs
    all_goals first
      | (cases hs; done)
      | exact to_nr hs
      | exact aft_nr hs
  | iload _ =>
    exfalso
    simp only [am_do, i1, i2, l2, br, swt] at hs
    repeat' split at hs
    all_goals first
      | (cases hs; done)
      | exact to_nr hs
      | exact aft_nr hs
  | aload_n _ =>
    exfalso
    simp only [am_do, i1, i2, l2, br, swt] at hs
    repeat' split at hs
    all_goals first
      | (cases hs; done)
      | exact to_nr hs
      | exact aft_nr hs
  | aload _ =>
    exfalso
    simp only [am_do, i1, i2, l2, br, swt] at hs
    repeat' split at hs
    all_goals first
      | (cases hs; done)
      | exact to_nr hs
      | exact aft_nr hs
  | lload _ =>
    exfalso
    simp only [am_do, i1, i2, l2, br, swt] at hs
    repeat' split at hs
    all_goals first
      | (cases hs; done)
      | exact to_nr hs
      | exact aft_nr hs
  | istore_n _ =>
    exfalso
    simp only [am_do, i1, i2, l2, br, swt] at hs
    repeat' split at hs
    all_goals first
      | (cases hs; done)
      | exact to_nr hs
      | exact aft_nr hs
  | istore _ =>
    exfalso
    simp only [am_do, i1, i2, l2, br, swt] at hs
    repeat' split at hs
    all_goals first
      | (cases hs; done)
      | exact to_nr hs
      | exact aft_nr hs
  | astore_n _ =>
    exfalso
    simp only [am_do, i1, i2, l2, br, swt] at hs
    repeat' split at hs
    all_goals first
      | (cases hs; done)
      | exact to_nr hs
      | exact aft_nr hs
  | astore _ =>
    exfalso
    simp only [am_do, i1, i2, l2, br, swt] at hs
    repeat' split at hs
    all_goals first
      | (cases hs; done)
      | exact to_nr hs
      | exact aft_nr hs
  | lstore _ =>
    exfalso
    simp only [am_do, i1, i2, l2, br, swt] at hs
    repeat' split at hs
    all_goals first
      | (cases hs; done)
      | exact to_nr hs
      | exact aft_nr hs
  | iinc _ _ =>
    exfalso
    simp only [am_do, i1, i2, l2, br, swt] at hs
    repeat' split at hs
    all_goals first
      | (cases hs; done)
      | exact to_nr hs
      | exact aft_nr hs
  | iadd =>
    exfalso
    simp only [am_do, i1, i2, l2, br, swt] at hs
    repeat' split at hs
    all_goals first
      | (cases hs; done)
      | exact to_nr hs
      | exact aft_nr hs
  | isub =>
    exfalso
    simp only [am_do, i1, i2, l2, br, swt] at hs
    repeat' split at hs
    all_goals first
      | (cases hs; done)
      | exact to_nr hs
      | exact aft_nr hs
  | imul =>
    exfalso
    simp only [am_do, i1, i2, l2, br, swt] at hs
    repeat' split at hs
    all_goals first
      | (cases hs; done)
      | exact to_nr hs
      | exact aft_nr hs
  | iand =>
    exfalso
    simp only [am_do, i1, i2, l2, br, swt] at hs
    repeat' split at hs
    all_goals first
      | (cases hs; done)
      | exact to_nr hs
      | exact aft_nr hs
  | ior =>
    exfalso
    simp only [am_do, i1, i2, l2, br, swt] at hs
    repeat' split at hs
    all_goals first
      | (cases hs; done)
      | exact to_nr hs
      | exact aft_nr hs
  | ixor =>
    exfalso
    simp only [am_do, i1, i2, l2, br, swt] at hs
    repeat' split at hs
    all_goals first
      | (cases hs; done)
      | exact to_nr hs
      | exact aft_nr hs
  | ishl =>
    exfalso
    simp only [am_do, i1, i2, l2, br, swt] at hs
    repeat' split at hs
    all_goals first
      | (cases hs; done)
      | exact to_nr hs
      | exact aft_nr hs
  | ishr =>
    exfalso
    simp only [am_do, i1, i2, l2, br, swt] at hs
    repeat' split at hs
    all_goals first
      | (cases hs; done)
      | exact to_nr hs
      | exact aft_nr hs
  | iushr =>
    exfalso
    simp only [am_do, i1, i2, l2, br, swt] at hs
    repeat' split at hs
    all_goals first
      | (cases hs; done)
      | exact to_nr hs
      | exact aft_nr hs
  | idiv =>
    exfalso
    simp only [am_do, i1, i2, l2, br, swt] at hs
    repeat' split at hs
    all_goals first
      | (cases hs; done)
      | exact to_nr hs
      | exact aft_nr hs
  | irem =>
    exfalso
    simp only [am_do, i1, i2, l2, br, swt] at hs
    repeat' split at hs
    all_goals first
      | (cases hs; done)
      | exact to_nr hs
      | exact aft_nr hs
  | ineg =>
    exfalso
    simp only [am_do, i1, i2, l2, br, swt] at hs
    repeat' split at hs
    all_goals first
      | (cases hs; done)
      | exact to_nr hs
      | exact aft_nr hs
  | i2l =>
    exfalso
    simp only [am_do, i1, i2, l2, br, swt] at hs
    repeat' split at hs
    all_goals first
      | (cases hs; done)
      | exact to_nr hs
      | exact aft_nr hs
  | i2s =>
    exfalso
    simp only [am_do, i1, i2, l2, br, swt] at hs
    repeat' split at hs
    all_goals first
      | (cases hs; done)
      | exact to_nr hs
      | exact aft_nr hs
  | l2i =>
    exfalso
    simp only [am_do, i1, i2, l2, br, swt] at hs
    repeat' split at hs
    all_goals first
      | (cases hs; done)
      | exact to_nr hs
      | exact aft_nr hs
  | lneg =>
    exfalso
    simp only [am_do, i1, i2, l2, br, swt] at hs
    repeat' split at hs
    all_goals first
      | (cases hs; done)
      | exact to_nr hs
      | exact aft_nr hs
  | ladd =>
    exfalso
    simp only [am_do, i1, i2, l2, br, swt] at hs
    repeat' split at hs
    all_goals first
      | (cases hs; done)
      | exact to_nr hs
      | exact aft_nr hs
  | lsub =>
    exfalso
    simp only [am_do, i1, i2, l2, br, swt] at hs
    repeat' split at hs
    all_goals first
      | (cases hs; done)
      | exact to_nr hs
      | exact aft_nr hs
  | lcmp =>
    exfalso
    simp only [am_do, i1, i2, l2, br, swt] at hs
    repeat' split at hs
    all_goals first
      | (cases hs; done)
      | exact to_nr hs
      | exact aft_nr hs
  | dup =>
    exfalso
    simp only [am_do, i1, i2, l2, br, swt] at hs
    repeat' split at hs
    all_goals first
      | (cases hs; done)
      | exact to_nr hs
      | exact aft_nr hs
  | pop =>
    exfalso
    simp only [am_do, i1, i2, l2, br, swt] at hs
    repeat' split at hs
    all_goals first
      | (cases hs; done)
      | exact to_nr hs
      | exact aft_nr hs
  | dup2 =>
    exfalso
    simp only [am_do, i1, i2, l2, br, swt] at hs
    repeat' split at hs
    all_goals first
      | (cases hs; done)
      | exact to_nr hs
      | exact aft_nr hs
  | goto _ =>
    exfalso
    simp only [am_do, i1, i2, l2, br, swt] at hs
    repeat' split at hs
    all_goals first
      | (cases hs; done)
      | exact to_nr hs
      | exact aft_nr hs
  | ifCond _ _ =>
    exfalso
    simp only [am_do, i1, i2, l2, br, swt] at hs
    repeat' split at hs
    all_goals first
      | (cases hs; done)
      | exact to_nr hs
      | exact aft_nr hs
  | if_icmp _ _ =>
    exfalso
    simp only [am_do, i1, i2, l2, br, swt] at hs
    repeat' split at hs
    all_goals first
      | (cases hs; done)
      | exact to_nr hs
      | exact aft_nr hs
  | tableswitch _ _ _ _ =>
    exfalso
    simp only [am_do, i1, i2, l2, br, swt] at hs
    repeat' split at hs
    all_goals first
      | (cases hs; done)
      | exact to_nr hs
      | exact aft_nr hs
  | lookupswitch _ _ =>
    exfalso
    simp only [am_do, i1, i2, l2, br, swt] at hs
    repeat' split at hs
    all_goals first
      | (cases hs; done)
      | exact to_nr hs
      | exact aft_nr hs
  | getfield _ =>
    exfalso
    simp only [am_do, i1, i2, l2, br, swt] at hs
    repeat' split at hs
    all_goals first
      | (cases hs; done)
      | exact to_nr hs
      | exact aft_nr hs
  | putfield _ =>
    exfalso
    simp only [am_do, i1, i2, l2, br, swt] at hs
    repeat' split at hs
    all_goals first
      | (cases hs; done)
      | exact to_nr hs
      | exact aft_nr hs
  | getstatic _ =>
    exfalso
    simp only [am_do, i1, i2, l2, br, swt] at hs
    repeat' split at hs
    all_goals first
      | (cases hs; done)
      | exact to_nr hs
      | exact aft_nr hs
  | ldc _ =>
    exfalso
    simp only [am_do, i1, i2, l2, br, swt] at hs
    repeat' split at hs
    all_goals first
      | (cases hs; done)
      | exact to_nr hs
      | exact aft_nr hs
  | ldc_w _ =>
    exfalso
    simp only [am_do, i1, i2, l2, br, swt] at hs
    repeat' split at hs
    all_goals first
      | (cases hs; done)
      | exact to_nr hs
      | exact aft_nr hs
  | iaload =>
    exfalso
    simp only [am_do, i1, i2, l2, br, swt] at hs
    repeat' split at hs
    all_goals first
      | (cases hs; done)
      | exact to_nr hs
      | exact aft_nr hs
  | baload =>
    exfalso
    simp only [am_do, i1, i2, l2, br, swt] at hs
    repeat' split at hs
    all_goals first
      | (cases hs; done)
      | exact to_nr hs
      | exact aft_nr hs
  | caload =>
    exfalso
    simp only [am_do, i1, i2, l2, br, swt] at hs
    repeat' split at hs
    all_goals first
      | (cases hs; done)
      | exact to_nr hs
      | exact aft_nr hs
  | aaload =>
    exfalso
    simp only [am_do, i1, i2, l2, br, swt] at hs
    repeat' split at hs
    all_goals first
      | (cases hs; done)
      | exact to_nr hs
      | exact aft_nr hs
  | iastore =>
    exfalso
    simp only [am_do, i1, i2, l2, br, swt] at hs
    repeat' split at hs
    all_goals first
      | (cases hs; done)
      | exact to_nr hs
      | exact aft_nr hs
  | bastore =>
    exfalso
    simp only [am_do, i1, i2, l2, br, swt] at hs
    repeat' split at hs
    all_goals first
      | (cases hs; done)
      | exact to_nr hs
      | exact aft_nr hs
  | castore =>
    exfalso
    simp only [am_do, i1, i2, l2, br, swt] at hs
    repeat' split at hs
    all_goals first
      | (cases hs; done)
      | exact to_nr hs
      | exact aft_nr hs
  | aastore =>
    exfalso
    simp only [am_do, i1, i2, l2, br, swt] at hs
    repeat' split at hs
    all_goals first
      | (cases hs; done)
      | exact to_nr hs
      | exact aft_nr hs
  | arraylength =>
    exfalso
    simp only [am_do, i1, i2, l2, br, swt] at hs
    repeat' split at hs
    all_goals first
      | (cases hs; done)
      | exact to_nr hs
      | exact aft_nr hs
  | new _ =>
    exfalso
    simp only [am_do, i1, i2, l2, br, swt] at hs
    repeat' split at hs
    all_goals first
      | (cases hs; done)
      | exact to_nr hs
      | exact aft_nr hs
  | newarray _ =>
    exfalso
    simp only [am_do, i1, i2, l2, br, swt] at hs
    repeat' split at hs
    all_goals first
      | (cases hs; done)
      | exact to_nr hs
      | exact aft_nr hs
  | anewarray _ =>
    exfalso
    simp only [am_do, i1, i2, l2, br, swt] at hs
    repeat' split at hs
    all_goals first
      | (cases hs; done)
      | exact to_nr hs
      | exact aft_nr hs
  | invokevirtual _ =>
    exfalso
    simp only [am_do, i1, i2, l2, br, swt] at hs
    repeat' split at hs
    all_goals first
      | (cases hs; done)
      | exact to_nr hs
      | exact aft_nr hs
  | invokestatic _ =>
    exfalso
    simp only [am_do, i1, i2, l2, br, swt] at hs
    repeat' split at hs
    all_goals first
      | (cases hs; done)
      | exact to_nr hs
      | exact aft_nr hs
  | invokespecial _ =>
    exfalso
    simp only [am_do, i1, i2, l2, br, swt] at hs
    repeat' split at hs
    all_goals first
      | (cases hs; done)
      | exact to_nr hs
      | exact aft_nr hs
  | ireturn =>
    replace hs := if_so hs
    obtain ⟨rfl, hs⟩ := hs
    split at hs
    · rename_i v ty hm
      replace hs := if_so hs
      obtain ⟨hn, hs⟩ := hs
      cases hs
      exact ⟨rfl, rfl, rfl, Or.inl ⟨rfl, _, _, rfl, hm, hn, rfl⟩⟩
    · cases hs
  | lreturn =>
    replace hs := if_so hs
    obtain ⟨rfl, hs⟩ := hs
    split at hs
    · rename_i v hm
      cases hs
      exact ⟨rfl, rfl, rfl, Or.inr (Or.inl ⟨rfl, _, rfl, hm, rfl⟩)⟩
    · cases hs
  | areturn =>
    replace hs := if_so hs
    obtain ⟨rfl, hs⟩ := hs
    split at hs
    · rename_i v ty hm
      replace hs := if_so hs
      obtain ⟨hn, hs⟩ := hs
      cases hs
      exact ⟨rfl, rfl, rfl, Or.inr (Or.inr (Or.inl ⟨rfl, _, _, rfl, hm, hn, rfl⟩))⟩
    · cases hs
  | return_ =>
    replace hs := if_so hs
    obtain ⟨rfl, hs⟩ := hs
    split at hs
    · rename_i hm
      cases hs
      exact ⟨rfl, rfl, rfl, Or.inr (Or.inr (Or.inr ⟨rfl, rfl, hm, rfl⟩))⟩
    · cases hs
  | _ => cases hs
end
section
/-! the abstract machine is sound -/
theorem am_itr_le {call : Nat → List Value → AH → AN → Option AR} (hc : ∀ (k' : Nat) (as : List Value) (h : AH) (nx : AN) (r : AR), k' < kLaw → call k' as h nx = some r → nx.1 ≤ r.2.2.1 ∧ nx.2 ≤ r.2.2.2) {k : Nat} : ∀ {n : Nat} {f : AF} {r : AR}, am_itr call k n f = some r → f.2.2.2.2.1 ≤ r.2.2.1 ∧ f.2.2.2.2.2 ≤ r.2.2.2
  | 0, _, _, h => by simp [am_itr] at h
  | n + 1, (pc, ls, st, hh, nx), r, h => by
    unfold am_itr at h
    cases hs : am_step call k pc ls st hh nx with
    | none => rw [hs] at h; simp at h
    | some x =>
      rw [hs] at h
      unfold am_step at hs
      cases hi : ins k pc with
      | none => rw [hi] at hs; cases hs
      | some y =>
        obtain ⟨i, len⟩ := y
        rw [hi] at hs
        cases x with
        | inl f =>
          have h1 := am_mono (fun k' as r => hc k' as hh nx r) hs
          have h2 := am_itr_le hc (show am_itr call k n f = some r from h)
          exact ⟨Nat.le_trans h1.1 h2.1, Nat.le_trans h1.2 h2.2⟩
        | inr r' =>
          have h : some r' = some r := h
          cases h
          obtain ⟨-, -, h3, -⟩ := am_end hs
          rw [h3]
          exact ⟨Nat.le_refl _, Nat.le_refl _⟩
section SO
variable {p : Program} {l : Launch} {e : Env} {R : Room} {s : State} {m : MethodId} {args : Array Value} {below : List Frame} {meth : Method} {c : Code} {Q : State → Prop} {D : va_G} {ad dA : Nat → Nat} {sz k d : Nat} {n0 : AN} {call : Nat → List Value → AH → AN → Option AR}
theorem am_walk {r : AR} (B : am_B p R s m args meth c D ad dA sz k d n0) (hc : ∀ (k' : Nat) (as : List Value) (h : AH) (nx : AN) (r : AR), k' < kLaw → call k' as h nx = some r → (nx.1 ≤ r.2.2.1 ∧ nx.2 ≤ r.2.2.2) ∧ am_K l D ad dA sz d k' as h nx r) (hr : r.2.2.1 ≤ n0.1 + R.cells ∧ r.2.2.2 ≤ n0.2 + R.slots)
    (hret : ∀ (pc len : Nat) (i : Instr) (ls st : List Value) (h : AH) (nx : AN), decode (mC k) pc = .ok (i, len) → am_End k i len st h nx r → am_W p l e R s m args below meth c Q D ad dA sz k n0 (pc, ls, st, h, nx)) : ∀ (n : Nat) (f : AF), am_itr call k n f = some r → am_W p l e R s m args below meth c Q D ad dA sz k n0 f := by
  intro n
  induction n with
  | zero => intro f h; simp [am_itr] at h
  | succ n ih =>
    intro f h
    obtain ⟨pc, ls, st, hh, nx⟩ := f
    unfold am_itr at h
    cases hs : am_step call k pc ls st hh nx with
    | none => rw [hs] at h; simp at h
    | some x =>
      rw [hs] at h
      unfold am_step at hs
      cases hi : ins k pc with
      | none => rw [hi] at hs; cases hs
      | some y =>
        obtain ⟨i, len⟩ := y
        rw [hi] at hs
        cases x with
        | inl f =>
          have h : am_itr call k n f = some r := h
          have h2 := am_itr_le (fun k' as h nx r a b => (hc k' as h nx r a b).1) h
          exact am_sim B (ins_dec hi) hs ⟨Nat.le_trans h2.1 hr.1, Nat.le_trans h2.2 hr.2⟩ (fun k' as r => hc k' as hh nx r) (ih f h)
        | inr r' =>
          have h : some r' = some r := h
          cases h
          exact hret pc len i ls st hh nx (ins_dec hi) (am_end hs)
end SO
theorem lg_sl_ir : ∀ (vs : List Value), vs.all isIR = true → ∀ ad : Nat → Nat, lg_sl (vs.map (sv ad)) = (vs.map (sv ad)).map Slot.val
  | [], _, _ => rfl
  | v :: vs, h, ad => by
    simp only [List.all_cons, Bool.and_eq_true] at h
    have ih := lg_sl_ir vs h.2 ad
    unfold lg_sl at ih ⊢
    simp only [List.map_cons, List.flatMap_cons]
    rw [ih]
    cases v <;> first | (cases h.1; done) | rfl
theorem am_LR0 (ad : Nat → Nat) {k : Nat} {args : List Value} (h : aok k args = true) : LR ad ((lg_sl (args.map (sv ad)) ++ List.replicate (mL k - (lg_sl (args.map (sv ad))).length) Slot.unset).toArray) (mL k) (am_entry k args) := by
  simp only [aok, Bool.and_eq_true, decide_eq_true_eq] at h
  have e := lg_sl_ir args h.2 ad
  have hl : (lg_sl (args.map (sv ad))).length = args.length := by rw [e]; simp
  have hw := lv_entry (args.map (sv ad)) (n := mL k) (by rw [hl]; exact h.1)
  refine ⟨hw.1, hw.2.1, ?_, fun j v hv hvv => ?_, fun j x hx => ?_⟩
  · unfold am_entry
    simp
    omega
  · unfold am_entry at hv
    by_cases hj : j < args.length
    · rw [List.getElem?_append_left hj] at hv
      rw [e]
      simp [List.getElem?_append, hj, hv]
      rw [(List.getElem?_eq_some_iff.mp hv).2]
    · rw [List.getElem?_append_right (by omega), List.getElem?_replicate] at hv
      split at hv
      · cases hv
        cases hvv
      · cases hv
  · unfold am_entry at hx
    by_cases hj : j < args.length
    · rw [List.getElem?_append_left hj] at hx
      have := List.all_eq_true.mp h.2 _ (List.mem_of_getElem? hx)
      cases this
    · rw [List.getElem?_append_right (by omega), List.getElem?_replicate] at hx
      split at hx
      · cases hx
      · cases hx
def am_StrOK : Prop := ∀ (l : Launch) (D : va_G) (ad dA : Nat → Nat) (sz d k : Nat) (args : List Value) (h : AH) (nx : AN) (r : AR), 8 ≤ d → (k = kLen ∨ k = kChr) → am_str k args h nx = some r → am_K l D ad dA sz (d + 1) k args h nx r
theorem am_str_nx {k : Nat} {args : List Value} {h : AH} {nx : AN} {r : AR} (q : am_str k args h nx = some r) : r.2.2 = nx := by
  unfold am_str at q
  split at q
  · replace q := if_so q
    obtain ⟨-, q⟩ := q
    cases q
    rfl
  · replace q := if_so q
    obtain ⟨-, q⟩ := q
    cases q
    rfl
  · cases q
set_option maxHeartbeats 4000000 in
theorem am_sound (hStr : am_StrOK) : ∀ (d k : Nat) (args : List Value) (h : AH) (nx : AN) (r : AR), k < kLaw → Dn d k args h nx = some r → (nx.1 ≤ r.2.2.1 ∧ nx.2 ≤ r.2.2.2) ∧ ∀ (l : Launch) (D : va_G) (ad dA : Nat → Nat) (sz : Nat), am_K l D ad dA sz d k args h nx r := by
  intro d
  induction d with
  | zero => intro k args h nx r _ q; cases q
  | succ d ih =>
    intro k args h nx r hk q
    have q : (if k = kLen ∨ k = kChr then (if 8 ≤ d then am_str k args h nx else none) else if aok k args = true then am_lim (Dn d) k (0, am_entry k args, [], h, nx) else none) = some r := q
    by_cases hks : k = kLen ∨ k = kChr
    · rw [if_pos hks] at q
      replace q := if_so q
      obtain ⟨h8, q⟩ := q
      have e := am_str_nx q
      exact ⟨by rw [e]; exact ⟨Nat.le_refl _, Nat.le_refl _⟩, fun l D ad dA sz => hStr l D ad dA sz d k args h nx r h8 hks q⟩
    · rw [if_neg hks] at q
      replace q := if_so q
      obtain ⟨hok, q⟩ := q
      obtain ⟨n, q⟩ := am_lim_some.mp q
      have hle := am_itr_le (fun k' as h nx r a b => (ih k' as h nx r a b).1) q
      have hle : nx.1 ≤ r.2.2.1 ∧ nx.2 ≤ r.2.2.2 := hle
      refine ⟨hle, fun l D ad dA sz => ?_⟩
      obtain ⟨mf1, mf2, mf3, mf4, mf5, mf6⟩ := m_facts hk
      unfold am_K
      refine va_MetF (cc := mC k) (maxL := mL k) (ret := mR k) mf6 rfl ?_
      intro p e s m args' below meth c s₁ Bd hml hv
      obtain ⟨rfl, hP, hz, hC, hH⟩ := hv
      have hx := Bd.exec
      have hb := Bd.bytes
      have hr := Bd.returns
      have hts0 := atoms_spec (ws := mW k) Bd.pre
      have hts : ∀ w ∈ gw, w.before (args.map (sv ad)).toArray s = true := fun w hw => hts0 w (List.mem_cons_of_mem _ hw)
      have hown : s.vm.findClass (mY k).cls = some m.cls := findClass_of_methodNamed Bd.named
      rw [mf2] at hown
      have hin : meth.name = (mY k).name := (name_of_methodNamed Bd.named Bd.method).1
      have hlocks := Bd.notSynchronized
      have B : am_B p (am_rm (d + 1) (r.2.2.1 - nx.1) (r.2.2.2 - nx.2)) s m (args.map (sv ad)).toArray meth c D ad dA sz k d nx := ⟨hx, hb, hml, hown, hts, hC, hin, Nat.le_refl _, Nat.le_refl _, hz⟩
      have hl := am_LR0 ad hok
      rw [lg_entry_eq]
      generalize (lg_sl (args.map (sv ad)) ++ List.replicate (mL k - (lg_sl (args.map (sv ad))).length) Slot.unset).toArray = cls at hl ⊢
      refine am_walk (call := Dn d) (r := r) B (fun k' as h nx r a b => ⟨(ih k' as h nx r a b).1, (ih k' as h nx r a b).2 l D ad dA sz⟩) ⟨by show _ ≤ nx.1 + (r.2.2.1 - nx.1); omega, by show _ ≤ nx.2 + (r.2.2.2 - nx.2); omega⟩ ?_ n (0, am_entry k args, [], h, nx) q cls s.heap [] 0 0 ⟨hl, hP, va_S.rf, hH, rfl, rfl⟩
      intro pc len i ls st h2 nx2 hd hend cls2 H locs cells slots hS
      obtain ⟨hl2, hP2, hSS, hH2, hc1, hc2⟩ := hS
      obtain ⟨rfl, hr1, hr2, hcase⟩ := hend
      have hc1 : nx.1 + cells = nx2.1 := hc1
      have hc2 : nx.2 + slots = nx2.2 := hc2
      have e1 : r.2.2.1 - nx.1 = cells := by rw [hr2]; omega
      have e2 : r.2.2.2 - nx.2 = slots := by rw [hr2]; omega
      rw [e1, e2]
      have hq : ∀ (o : Outcome), o = .returned (r.1.map (sv ad)) → ∀ t : State, t.heap = H → s.WarmedH t.vm → am_Qc D ad dA sz r (args.map (sv ad)).toArray s o t := by
        intro o ho t ht hW
        refine ⟨ho, ?_, ?_, hSS.F ht⟩
        · rw [ht, hr1, hr2]
          exact hP2
        · rw [hr1, hr2]
          exact hH2.moved hW.alike (fun q h1 h2 => by rw [ht]; exact hSS.2.1 q h1 h2)
      rcases hcase with ⟨rfl, v, ty, rfl, hR, hn, hv⟩ | ⟨rfl, v, rfl, hR, hv⟩ | ⟨rfl, v, ty, rfl, hR, hn, hv⟩ | ⟨rfl, rfl, hR, hv⟩
      · exact W.zret hx hb (hr.trans hR) (of_decide_eq_true hn) (hq _ (by rw [hv]; rfl)) hSS.2.2 hd
      · exact W.lret hx hb (hr.trans hR) (hq _ (by rw [hv]; rfl)) hSS.2.2 hd
      · refine W.aret (v := .ref (ad v)) hx hb (hr.trans hR) ?_ (Or.inr ⟨_, rfl⟩) (hq _ (by rw [hv]; rfl)) hSS.2.2 hd
        cases ty with
        | object nm => exact Or.inl ⟨nm, rfl⟩
        | array t => exact Or.inr ⟨t, rfl⟩
        | _ => cases hn
      · exact W.vret hx hb (hr.trans hR) (hq _ (by rw [hv]; rfl)) hSS.2.2 hd
end
