section
-- ===== PART A: goes FIRST, ahead of the names: the tables' words, and 'selects' of the private methods out of them =====
/-- a private method of a class that the tables say can be made, by its rows of tables_1 -/
def lw_okq (q : MethodName × Nat) : Prop := (q.1.cls ≠ "java/lang/invoke/MethodHandle" ∧ q.1.cls ≠ "java/lang/invoke/VarHandle") ∧ Cond.instantiable q.1.cls q.2 ∈ tables_1 ∧ Cond.privateMethod q.1 ∈ tables_1 ∧ Cond.instanceMethod q.1 ∈ tables_1
theorem lw_p0 : lw_okq (⟨"VowRope", "found", "(I)I"⟩, 12) := ⟨⟨by decide +kernel, by decide +kernel⟩, List.mem_of_getElem? (i := 21) (by decide +kernel), List.mem_of_getElem? (i := 298) (by decide +kernel), List.mem_of_getElem? (i := 299) (by decide +kernel)⟩
theorem lw_p1 : lw_okq (⟨"VowRope", "foundNothing", "(I)I"⟩, 12) := ⟨⟨by decide +kernel, by decide +kernel⟩, List.mem_of_getElem? (i := 21) (by decide +kernel), List.mem_of_getElem? (i := 307) (by decide +kernel), List.mem_of_getElem? (i := 308) (by decide +kernel)⟩
theorem lw_p2 : lw_okq (⟨"VowRope$Tape", "takeName", "()V"⟩, 6) := ⟨⟨by decide +kernel, by decide +kernel⟩, List.mem_of_getElem? (i := 52) (by decide +kernel), List.mem_of_getElem? (i := 393) (by decide +kernel), List.mem_of_getElem? (i := 394) (by decide +kernel)⟩
theorem lw_p3 : lw_okq (⟨"VowRope$Tape", "takeNumber", "()V"⟩, 6) := ⟨⟨by decide +kernel, by decide +kernel⟩, List.mem_of_getElem? (i := 52) (by decide +kernel), List.mem_of_getElem? (i := 400) (by decide +kernel), List.mem_of_getElem? (i := 401) (by decide +kernel)⟩
theorem lw_p4 : lw_okq (⟨"VowRope$Reader", "readLaw", "(LVowRope$Walk;)V"⟩, 2) := ⟨⟨by decide +kernel, by decide +kernel⟩, List.mem_of_getElem? (i := 46) (by decide +kernel), List.mem_of_getElem? (i := 404) (by decide +kernel), List.mem_of_getElem? (i := 405) (by decide +kernel)⟩
theorem lw_p5 : lw_okq (⟨"VowRope$Reader", "takeNumber", "(II)I"⟩, 2) := ⟨⟨by decide +kernel, by decide +kernel⟩, List.mem_of_getElem? (i := 46) (by decide +kernel), List.mem_of_getElem? (i := 462) (by decide +kernel), List.mem_of_getElem? (i := 463) (by decide +kernel)⟩
theorem lw_p6 : lw_okq (⟨"VowRope$Reader", "takeSign", "()V"⟩, 2) := ⟨⟨by decide +kernel, by decide +kernel⟩, List.mem_of_getElem? (i := 46) (by decide +kernel), List.mem_of_getElem? (i := 466) (by decide +kernel), List.mem_of_getElem? (i := 467) (by decide +kernel)⟩
theorem lw_p7 : lw_okq (⟨"VowRope$Reader", "readSpeaker", "(LVowRope$Walk;)V"⟩, 2) := ⟨⟨by decide +kernel, by decide +kernel⟩, List.mem_of_getElem? (i := 46) (by decide +kernel), List.mem_of_getElem? (i := 471) (by decide +kernel), List.mem_of_getElem? (i := 472) (by decide +kernel)⟩
theorem lw_p8 : lw_okq (⟨"VowRope$Reader", "readYarn", "(LVowRope$Walk;)V"⟩, 2) := ⟨⟨by decide +kernel, by decide +kernel⟩, List.mem_of_getElem? (i := 46) (by decide +kernel), List.mem_of_getElem? (i := 476) (by decide +kernel), List.mem_of_getElem? (i := 477) (by decide +kernel)⟩
theorem lw_p9 : lw_okq (⟨"VowRope$Reader", "takeSort", "()I"⟩, 2) := ⟨⟨by decide +kernel, by decide +kernel⟩, List.mem_of_getElem? (i := 46) (by decide +kernel), List.mem_of_getElem? (i := 480) (by decide +kernel), List.mem_of_getElem? (i := 481) (by decide +kernel)⟩
theorem lw_p10 : lw_okq (⟨"VowRope$Walk", "strandBearsWithout", "(II)I"⟩, 11) := ⟨⟨by decide +kernel, by decide +kernel⟩, List.mem_of_getElem? (i := 91) (by decide +kernel), List.mem_of_getElem? (i := 567) (by decide +kernel), List.mem_of_getElem? (i := 568) (by decide +kernel)⟩
theorem lw_p11 : lw_okq (⟨"VowRope$Best", "layFrom", "(II)V"⟩, 7) := ⟨⟨by decide +kernel, by decide +kernel⟩, List.mem_of_getElem? (i := 173) (by decide +kernel), List.mem_of_getElem? (i := 632) (by decide +kernel), List.mem_of_getElem? (i := 633) (by decide +kernel)⟩
theorem lw_p12 : lw_okq (⟨"VowRope$Best", "missing", "()I"⟩, 7) := ⟨⟨by decide +kernel, by decide +kernel⟩, List.mem_of_getElem? (i := 173) (by decide +kernel), List.mem_of_getElem? (i := 636) (by decide +kernel), List.mem_of_getElem? (i := 637) (by decide +kernel)⟩
theorem lw_p13 : lw_okq (⟨"VowRope$Cheapest", "fillBest", "(III)I"⟩, 2) := ⟨⟨by decide +kernel, by decide +kernel⟩, List.mem_of_getElem? (i := 203) (by decide +kernel), List.mem_of_getElem? (i := 652) (by decide +kernel), List.mem_of_getElem? (i := 653) (by decide +kernel)⟩
theorem lw_p14 : lw_okq (⟨"VowRope$Odds", "yearsFrom", "(LVowRope$Walk;I)I"⟩, 4) := ⟨⟨by decide +kernel, by decide +kernel⟩, List.mem_of_getElem? (i := 216) (by decide +kernel), List.mem_of_getElem? (i := 672) (by decide +kernel), List.mem_of_getElem? (i := 673) (by decide +kernel)⟩
theorem lw_p15 : lw_okq (⟨"VowRope$Odds", "divideByTwo", "()V"⟩, 4) := ⟨⟨by decide +kernel, by decide +kernel⟩, List.mem_of_getElem? (i := 216) (by decide +kernel), List.mem_of_getElem? (i := 678) (by decide +kernel), List.mem_of_getElem? (i := 679) (by decide +kernel)⟩
def lw_privs_1 : List (MethodName × Nat) := [(⟨"VowRope", "found", "(I)I"⟩, 12), (⟨"VowRope", "foundNothing", "(I)I"⟩, 12), (⟨"VowRope$Tape", "takeName", "()V"⟩, 6), (⟨"VowRope$Tape", "takeNumber", "()V"⟩, 6), (⟨"VowRope$Reader", "readLaw", "(LVowRope$Walk;)V"⟩, 2), (⟨"VowRope$Reader", "takeNumber", "(II)I"⟩, 2), (⟨"VowRope$Reader", "takeSign", "()V"⟩, 2), (⟨"VowRope$Reader", "readSpeaker", "(LVowRope$Walk;)V"⟩, 2), (⟨"VowRope$Reader", "readYarn", "(LVowRope$Walk;)V"⟩, 2), (⟨"VowRope$Reader", "takeSort", "()I"⟩, 2), (⟨"VowRope$Walk", "strandBearsWithout", "(II)I"⟩, 11), (⟨"VowRope$Best", "layFrom", "(II)V"⟩, 7), (⟨"VowRope$Best", "missing", "()I"⟩, 7), (⟨"VowRope$Cheapest", "fillBest", "(III)I"⟩, 2), (⟨"VowRope$Odds", "yearsFrom", "(LVowRope$Walk;I)I"⟩, 4), (⟨"VowRope$Odds", "divideByTwo", "()V"⟩, 4)]
theorem lw_r1 : ∀ q ∈ lw_privs_1, lw_okq q := List.forall_mem_cons.mpr ⟨lw_p0, List.forall_mem_cons.mpr ⟨lw_p1, List.forall_mem_cons.mpr ⟨lw_p2, List.forall_mem_cons.mpr ⟨lw_p3, List.forall_mem_cons.mpr ⟨lw_p4, List.forall_mem_cons.mpr ⟨lw_p5, List.forall_mem_cons.mpr ⟨lw_p6, List.forall_mem_cons.mpr ⟨lw_p7, List.forall_mem_cons.mpr ⟨lw_p8, List.forall_mem_cons.mpr ⟨lw_p9, List.forall_mem_cons.mpr ⟨lw_p10, List.forall_mem_cons.mpr ⟨lw_p11, List.forall_mem_cons.mpr ⟨lw_p12, List.forall_mem_cons.mpr ⟨lw_p13, List.forall_mem_cons.mpr ⟨lw_p14, List.forall_mem_cons.mpr ⟨lw_p15, fun _ h => absurd h List.not_mem_nil⟩⟩⟩⟩⟩⟩⟩⟩⟩⟩⟩⟩⟩⟩⟩⟩
theorem lw_p16 : lw_okq (⟨"VowRope$Odds", "divideByFive", "()V"⟩, 4) := ⟨⟨by decide +kernel, by decide +kernel⟩, List.mem_of_getElem? (i := 216) (by decide +kernel), List.mem_of_getElem? (i := 682) (by decide +kernel), List.mem_of_getElem? (i := 683) (by decide +kernel)⟩
theorem lw_p17 : lw_okq (⟨"VowRope$Asks", "give", "(LVowRope$Walk;III)I"⟩, 2) := ⟨⟨by decide +kernel, by decide +kernel⟩, List.mem_of_getElem? (i := 237) (by decide +kernel), List.mem_of_getElem? (i := 760) (by decide +kernel), List.mem_of_getElem? (i := 761) (by decide +kernel)⟩
theorem lw_p18 : lw_okq (⟨"VowRope$Asks", "leave", "(I)V"⟩, 2) := ⟨⟨by decide +kernel, by decide +kernel⟩, List.mem_of_getElem? (i := 237) (by decide +kernel), List.mem_of_getElem? (i := 764) (by decide +kernel), List.mem_of_getElem? (i := 765) (by decide +kernel)⟩
theorem lw_p19 : lw_okq (⟨"VowRopeModel", "finding", "(I)I"⟩, 29) := ⟨⟨by decide +kernel, by decide +kernel⟩, List.mem_of_getElem? (i := 793) (by decide +kernel), List.mem_of_getElem? (i := 901) (by decide +kernel), List.mem_of_getElem? (i := 902) (by decide +kernel)⟩
theorem lw_p20 : lw_okq (⟨"VowRopeModel", "begin", "()V"⟩, 29) := ⟨⟨by decide +kernel, by decide +kernel⟩, List.mem_of_getElem? (i := 793) (by decide +kernel), List.mem_of_getElem? (i := 929) (by decide +kernel), List.mem_of_getElem? (i := 930) (by decide +kernel)⟩
theorem lw_p21 : lw_okq (⟨"VowRopeModel", "next", "()V"⟩, 29) := ⟨⟨by decide +kernel, by decide +kernel⟩, List.mem_of_getElem? (i := 793) (by decide +kernel), List.mem_of_getElem? (i := 933) (by decide +kernel), List.mem_of_getElem? (i := 934) (by decide +kernel)⟩
theorem lw_p22 : lw_okq (⟨"VowRopeModel", "byteAt", "(I)I"⟩, 29) := ⟨⟨by decide +kernel, by decide +kernel⟩, List.mem_of_getElem? (i := 793) (by decide +kernel), List.mem_of_getElem? (i := 937) (by decide +kernel), List.mem_of_getElem? (i := 938) (by decide +kernel)⟩
theorem lw_p23 : lw_okq (⟨"VowRopeModel", "name", "()J"⟩, 29) := ⟨⟨by decide +kernel, by decide +kernel⟩, List.mem_of_getElem? (i := 793) (by decide +kernel), List.mem_of_getElem? (i := 948) (by decide +kernel), List.mem_of_getElem? (i := 949) (by decide +kernel)⟩
theorem lw_p24 : lw_okq (⟨"VowRopeModel", "must", "(Z)V"⟩, 29) := ⟨⟨by decide +kernel, by decide +kernel⟩, List.mem_of_getElem? (i := 793) (by decide +kernel), List.mem_of_getElem? (i := 953) (by decide +kernel), List.mem_of_getElem? (i := 954) (by decide +kernel)⟩
theorem lw_p25 : lw_okq (⟨"VowRopeModel", "bad", "(I)V"⟩, 29) := ⟨⟨by decide +kernel, by decide +kernel⟩, List.mem_of_getElem? (i := 793) (by decide +kernel), List.mem_of_getElem? (i := 957) (by decide +kernel), List.mem_of_getElem? (i := 958) (by decide +kernel)⟩
theorem lw_p26 : lw_okq (⟨"VowRopeModel", "number", "(II)I"⟩, 29) := ⟨⟨by decide +kernel, by decide +kernel⟩, List.mem_of_getElem? (i := 793) (by decide +kernel), List.mem_of_getElem? (i := 961) (by decide +kernel), List.mem_of_getElem? (i := 962) (by decide +kernel)⟩
theorem lw_p27 : lw_okq (⟨"VowRopeModel", "figures", "()I"⟩, 29) := ⟨⟨by decide +kernel, by decide +kernel⟩, List.mem_of_getElem? (i := 793) (by decide +kernel), List.mem_of_getElem? (i := 965) (by decide +kernel), List.mem_of_getElem? (i := 966) (by decide +kernel)⟩
theorem lw_p28 : lw_okq (⟨"VowRopeModel", "mustEnd", "()V"⟩, 29) := ⟨⟨by decide +kernel, by decide +kernel⟩, List.mem_of_getElem? (i := 793) (by decide +kernel), List.mem_of_getElem? (i := 969) (by decide +kernel), List.mem_of_getElem? (i := 970) (by decide +kernel)⟩
theorem lw_p29 : lw_okq (⟨"VowRopeModel", "readSpeaker", "()V"⟩, 29) := ⟨⟨by decide +kernel, by decide +kernel⟩, List.mem_of_getElem? (i := 793) (by decide +kernel), List.mem_of_getElem? (i := 974) (by decide +kernel), List.mem_of_getElem? (i := 975) (by decide +kernel)⟩
theorem lw_p30 : lw_okq (⟨"VowRopeModel", "begins", "(II)V"⟩, 29) := ⟨⟨by decide +kernel, by decide +kernel⟩, List.mem_of_getElem? (i := 793) (by decide +kernel), List.mem_of_getElem? (i := 978) (by decide +kernel), List.mem_of_getElem? (i := 979) (by decide +kernel)⟩
theorem lw_p31 : lw_okq (⟨"VowRopeModel", "readYarn", "()V"⟩, 29) := ⟨⟨by decide +kernel, by decide +kernel⟩, List.mem_of_getElem? (i := 793) (by decide +kernel), List.mem_of_getElem? (i := 983) (by decide +kernel), List.mem_of_getElem? (i := 984) (by decide +kernel)⟩
def lw_privs_2 : List (MethodName × Nat) := [(⟨"VowRope$Odds", "divideByFive", "()V"⟩, 4), (⟨"VowRope$Asks", "give", "(LVowRope$Walk;III)I"⟩, 2), (⟨"VowRope$Asks", "leave", "(I)V"⟩, 2), (⟨"VowRopeModel", "finding", "(I)I"⟩, 29), (⟨"VowRopeModel", "begin", "()V"⟩, 29), (⟨"VowRopeModel", "next", "()V"⟩, 29), (⟨"VowRopeModel", "byteAt", "(I)I"⟩, 29), (⟨"VowRopeModel", "name", "()J"⟩, 29), (⟨"VowRopeModel", "must", "(Z)V"⟩, 29), (⟨"VowRopeModel", "bad", "(I)V"⟩, 29), (⟨"VowRopeModel", "number", "(II)I"⟩, 29), (⟨"VowRopeModel", "figures", "()I"⟩, 29), (⟨"VowRopeModel", "mustEnd", "()V"⟩, 29), (⟨"VowRopeModel", "readSpeaker", "()V"⟩, 29), (⟨"VowRopeModel", "begins", "(II)V"⟩, 29), (⟨"VowRopeModel", "readYarn", "()V"⟩, 29)]
theorem lw_r2 : ∀ q ∈ lw_privs_2, lw_okq q := List.forall_mem_cons.mpr ⟨lw_p16, List.forall_mem_cons.mpr ⟨lw_p17, List.forall_mem_cons.mpr ⟨lw_p18, List.forall_mem_cons.mpr ⟨lw_p19, List.forall_mem_cons.mpr ⟨lw_p20, List.forall_mem_cons.mpr ⟨lw_p21, List.forall_mem_cons.mpr ⟨lw_p22, List.forall_mem_cons.mpr ⟨lw_p23, List.forall_mem_cons.mpr ⟨lw_p24, List.forall_mem_cons.mpr ⟨lw_p25, List.forall_mem_cons.mpr ⟨lw_p26, List.forall_mem_cons.mpr ⟨lw_p27, List.forall_mem_cons.mpr ⟨lw_p28, List.forall_mem_cons.mpr ⟨lw_p29, List.forall_mem_cons.mpr ⟨lw_p30, List.forall_mem_cons.mpr ⟨lw_p31, fun _ h => absurd h List.not_mem_nil⟩⟩⟩⟩⟩⟩⟩⟩⟩⟩⟩⟩⟩⟩⟩⟩
theorem lw_p32 : lw_okq (⟨"VowRopeModel", "isYarn", "(I)Z"⟩, 29) := ⟨⟨by decide +kernel, by decide +kernel⟩, List.mem_of_getElem? (i := 793) (by decide +kernel), List.mem_of_getElem? (i := 1004) (by decide +kernel), List.mem_of_getElem? (i := 1005) (by decide +kernel)⟩
theorem lw_p33 : lw_okq (⟨"VowRopeModel", "keep", "()V"⟩, 29) := ⟨⟨by decide +kernel, by decide +kernel⟩, List.mem_of_getElem? (i := 793) (by decide +kernel), List.mem_of_getElem? (i := 1009) (by decide +kernel), List.mem_of_getElem? (i := 1010) (by decide +kernel)⟩
theorem lw_p34 : lw_okq (⟨"VowRopeModel", "of", "(II)I"⟩, 29) := ⟨⟨by decide +kernel, by decide +kernel⟩, List.mem_of_getElem? (i := 793) (by decide +kernel), List.mem_of_getElem? (i := 1013) (by decide +kernel), List.mem_of_getElem? (i := 1014) (by decide +kernel)⟩
theorem lw_p35 : lw_okq (⟨"VowRopeModel", "becomes", "(III)V"⟩, 29) := ⟨⟨by decide +kernel, by decide +kernel⟩, List.mem_of_getElem? (i := 793) (by decide +kernel), List.mem_of_getElem? (i := 1017) (by decide +kernel), List.mem_of_getElem? (i := 1018) (by decide +kernel)⟩
theorem lw_p36 : lw_okq (⟨"VowRopeModel", "strength", "(I)I"⟩, 29) := ⟨⟨by decide +kernel, by decide +kernel⟩, List.mem_of_getElem? (i := 793) (by decide +kernel), List.mem_of_getElem? (i := 1026) (by decide +kernel), List.mem_of_getElem? (i := 1027) (by decide +kernel)⟩
theorem lw_p37 : lw_okq (⟨"VowRopeModel", "strengthBy", "(II)I"⟩, 29) := ⟨⟨by decide +kernel, by decide +kernel⟩, List.mem_of_getElem? (i := 793) (by decide +kernel), List.mem_of_getElem? (i := 1030) (by decide +kernel), List.mem_of_getElem? (i := 1031) (by decide +kernel)⟩
theorem lw_p38 : lw_okq (⟨"VowRopeModel", "priceOf", "(I)I"⟩, 29) := ⟨⟨by decide +kernel, by decide +kernel⟩, List.mem_of_getElem? (i := 793) (by decide +kernel), List.mem_of_getElem? (i := 1034) (by decide +kernel), List.mem_of_getElem? (i := 1035) (by decide +kernel)⟩
theorem lw_p39 : lw_okq (⟨"VowRopeModel", "draw", "(I)I"⟩, 29) := ⟨⟨by decide +kernel, by decide +kernel⟩, List.mem_of_getElem? (i := 793) (by decide +kernel), List.mem_of_getElem? (i := 1058) (by decide +kernel), List.mem_of_getElem? (i := 1059) (by decide +kernel)⟩
theorem lw_p40 : lw_okq (⟨"VowRopeModel", "layStrands", "()V"⟩, 29) := ⟨⟨by decide +kernel, by decide +kernel⟩, List.mem_of_getElem? (i := 793) (by decide +kernel), List.mem_of_getElem? (i := 1064) (by decide +kernel), List.mem_of_getElem? (i := 1065) (by decide +kernel)⟩
theorem lw_p41 : lw_okq (⟨"VowRopeModel", "noStrands", "()V"⟩, 29) := ⟨⟨by decide +kernel, by decide +kernel⟩, List.mem_of_getElem? (i := 793) (by decide +kernel), List.mem_of_getElem? (i := 1068) (by decide +kernel), List.mem_of_getElem? (i := 1069) (by decide +kernel)⟩
theorem lw_p42 : lw_okq (⟨"VowRopeModel", "weakest", "()I"⟩, 29) := ⟨⟨by decide +kernel, by decide +kernel⟩, List.mem_of_getElem? (i := 793) (by decide +kernel), List.mem_of_getElem? (i := 1072) (by decide +kernel), List.mem_of_getElem? (i := 1073) (by decide +kernel)⟩
theorem lw_p43 : lw_okq (⟨"VowRopeModel", "ropeBears", "()I"⟩, 29) := ⟨⟨by decide +kernel, by decide +kernel⟩, List.mem_of_getElem? (i := 793) (by decide +kernel), List.mem_of_getElem? (i := 1076) (by decide +kernel), List.mem_of_getElem? (i := 1077) (by decide +kernel)⟩
theorem lw_p44 : lw_okq (⟨"VowRopeModel", "truthOf", "(I)I"⟩, 29) := ⟨⟨by decide +kernel, by decide +kernel⟩, List.mem_of_getElem? (i := 793) (by decide +kernel), List.mem_of_getElem? (i := 1084) (by decide +kernel), List.mem_of_getElem? (i := 1085) (by decide +kernel)⟩
theorem lw_p45 : lw_okq (⟨"VowRopeModel", "layBest", "()I"⟩, 29) := ⟨⟨by decide +kernel, by decide +kernel⟩, List.mem_of_getElem? (i := 793) (by decide +kernel), List.mem_of_getElem? (i := 1106) (by decide +kernel), List.mem_of_getElem? (i := 1107) (by decide +kernel)⟩
theorem lw_p46 : lw_okq (⟨"VowRopeModel", "bearsBy", "(I)I"⟩, 29) := ⟨⟨by decide +kernel, by decide +kernel⟩, List.mem_of_getElem? (i := 793) (by decide +kernel), List.mem_of_getElem? (i := 1110) (by decide +kernel), List.mem_of_getElem? (i := 1111) (by decide +kernel)⟩
theorem lw_p47 : lw_okq (⟨"VowRopeModel", "layTogether", "(I)V"⟩, 29) := ⟨⟨by decide +kernel, by decide +kernel⟩, List.mem_of_getElem? (i := 793) (by decide +kernel), List.mem_of_getElem? (i := 1118) (by decide +kernel), List.mem_of_getElem? (i := 1119) (by decide +kernel)⟩
def lw_privs_3 : List (MethodName × Nat) := [(⟨"VowRopeModel", "isYarn", "(I)Z"⟩, 29), (⟨"VowRopeModel", "keep", "()V"⟩, 29), (⟨"VowRopeModel", "of", "(II)I"⟩, 29), (⟨"VowRopeModel", "becomes", "(III)V"⟩, 29), (⟨"VowRopeModel", "strength", "(I)I"⟩, 29), (⟨"VowRopeModel", "strengthBy", "(II)I"⟩, 29), (⟨"VowRopeModel", "priceOf", "(I)I"⟩, 29), (⟨"VowRopeModel", "draw", "(I)I"⟩, 29), (⟨"VowRopeModel", "layStrands", "()V"⟩, 29), (⟨"VowRopeModel", "noStrands", "()V"⟩, 29), (⟨"VowRopeModel", "weakest", "()I"⟩, 29), (⟨"VowRopeModel", "ropeBears", "()I"⟩, 29), (⟨"VowRopeModel", "truthOf", "(I)I"⟩, 29), (⟨"VowRopeModel", "layBest", "()I"⟩, 29), (⟨"VowRopeModel", "bearsBy", "(I)I"⟩, 29), (⟨"VowRopeModel", "layTogether", "(I)V"⟩, 29)]
theorem lw_r3 : ∀ q ∈ lw_privs_3, lw_okq q := List.forall_mem_cons.mpr ⟨lw_p32, List.forall_mem_cons.mpr ⟨lw_p33, List.forall_mem_cons.mpr ⟨lw_p34, List.forall_mem_cons.mpr ⟨lw_p35, List.forall_mem_cons.mpr ⟨lw_p36, List.forall_mem_cons.mpr ⟨lw_p37, List.forall_mem_cons.mpr ⟨lw_p38, List.forall_mem_cons.mpr ⟨lw_p39, List.forall_mem_cons.mpr ⟨lw_p40, List.forall_mem_cons.mpr ⟨lw_p41, List.forall_mem_cons.mpr ⟨lw_p42, List.forall_mem_cons.mpr ⟨lw_p43, List.forall_mem_cons.mpr ⟨lw_p44, List.forall_mem_cons.mpr ⟨lw_p45, List.forall_mem_cons.mpr ⟨lw_p46, List.forall_mem_cons.mpr ⟨lw_p47, fun _ h => absurd h List.not_mem_nil⟩⟩⟩⟩⟩⟩⟩⟩⟩⟩⟩⟩⟩⟩⟩⟩
theorem lw_p48 : lw_okq (⟨"VowRopeModel", "costOf", "(I)I"⟩, 29) := ⟨⟨by decide +kernel, by decide +kernel⟩, List.mem_of_getElem? (i := 793) (by decide +kernel), List.mem_of_getElem? (i := 1122) (by decide +kernel), List.mem_of_getElem? (i := 1123) (by decide +kernel)⟩
theorem lw_p49 : lw_okq (⟨"VowRopeModel", "tenthsOf", "(I)I"⟩, 29) := ⟨⟨by decide +kernel, by decide +kernel⟩, List.mem_of_getElem? (i := 793) (by decide +kernel), List.mem_of_getElem? (i := 1130) (by decide +kernel), List.mem_of_getElem? (i := 1131) (by decide +kernel)⟩
theorem lw_p50 : lw_okq (⟨"VowRopeModel", "bearsIf", "(I)I"⟩, 29) := ⟨⟨by decide +kernel, by decide +kernel⟩, List.mem_of_getElem? (i := 793) (by decide +kernel), List.mem_of_getElem? (i := 1134) (by decide +kernel), List.mem_of_getElem? (i := 1135) (by decide +kernel)⟩
theorem lw_p51 : lw_okq (⟨"VowRopeModel", "isSpeaker", "(I)Z"⟩, 29) := ⟨⟨by decide +kernel, by decide +kernel⟩, List.mem_of_getElem? (i := 793) (by decide +kernel), List.mem_of_getElem? (i := 1155) (by decide +kernel), List.mem_of_getElem? (i := 1156) (by decide +kernel)⟩
theorem lw_p52 : lw_okq (⟨"VowRopeModel", "sizeOf", "(I)I"⟩, 29) := ⟨⟨by decide +kernel, by decide +kernel⟩, List.mem_of_getElem? (i := 793) (by decide +kernel), List.mem_of_getElem? (i := 1183) (by decide +kernel), List.mem_of_getElem? (i := 1184) (by decide +kernel)⟩
theorem lw_p53 : lw_okq (⟨"VowRopeModel", "lieSize", "(I)I"⟩, 29) := ⟨⟨by decide +kernel, by decide +kernel⟩, List.mem_of_getElem? (i := 793) (by decide +kernel), List.mem_of_getElem? (i := 1187) (by decide +kernel), List.mem_of_getElem? (i := 1188) (by decide +kernel)⟩
theorem lw_p54 : lw_okq (⟨"VowRopeModel", "began", "(I)V"⟩, 29) := ⟨⟨by decide +kernel, by decide +kernel⟩, List.mem_of_getElem? (i := 793) (by decide +kernel), List.mem_of_getElem? (i := 1191) (by decide +kernel), List.mem_of_getElem? (i := 1192) (by decide +kernel)⟩
theorem lw_p55 : lw_okq (⟨"VowRopeModel", "plainSize", "(I)I"⟩, 29) := ⟨⟨by decide +kernel, by decide +kernel⟩, List.mem_of_getElem? (i := 793) (by decide +kernel), List.mem_of_getElem? (i := 1195) (by decide +kernel), List.mem_of_getElem? (i := 1196) (by decide +kernel)⟩
theorem lw_p56 : lw_okq (⟨"VowRopeModel", "markOf", "(I)I"⟩, 29) := ⟨⟨by decide +kernel, by decide +kernel⟩, List.mem_of_getElem? (i := 793) (by decide +kernel), List.mem_of_getElem? (i := 1199) (by decide +kernel), List.mem_of_getElem? (i := 1200) (by decide +kernel)⟩
def lw_privs_4 : List (MethodName × Nat) := [(⟨"VowRopeModel", "costOf", "(I)I"⟩, 29), (⟨"VowRopeModel", "tenthsOf", "(I)I"⟩, 29), (⟨"VowRopeModel", "bearsIf", "(I)I"⟩, 29), (⟨"VowRopeModel", "isSpeaker", "(I)Z"⟩, 29), (⟨"VowRopeModel", "sizeOf", "(I)I"⟩, 29), (⟨"VowRopeModel", "lieSize", "(I)I"⟩, 29), (⟨"VowRopeModel", "began", "(I)V"⟩, 29), (⟨"VowRopeModel", "plainSize", "(I)I"⟩, 29), (⟨"VowRopeModel", "markOf", "(I)I"⟩, 29)]
theorem lw_r4 : ∀ q ∈ lw_privs_4, lw_okq q := List.forall_mem_cons.mpr ⟨lw_p48, List.forall_mem_cons.mpr ⟨lw_p49, List.forall_mem_cons.mpr ⟨lw_p50, List.forall_mem_cons.mpr ⟨lw_p51, List.forall_mem_cons.mpr ⟨lw_p52, List.forall_mem_cons.mpr ⟨lw_p53, List.forall_mem_cons.mpr ⟨lw_p54, List.forall_mem_cons.mpr ⟨lw_p55, List.forall_mem_cons.mpr ⟨lw_p56, fun _ h => absurd h List.not_mem_nil⟩⟩⟩⟩⟩⟩⟩⟩⟩
def lw_privs : List (MethodName × Nat) := lw_privs_1 ++ (lw_privs_2 ++ (lw_privs_3 ++ (lw_privs_4)))
def lw_tbl : List Cond := k2_sels lw_privs ++ tables_1
theorem lw_privs_ok : ∀ q ∈ lw_privs, lw_okq q := by
  show ∀ q ∈ lw_privs_1 ++ (lw_privs_2 ++ (lw_privs_3 ++ (lw_privs_4))), lw_okq q
  exact List.forall_mem_append.mpr ⟨lw_r1, List.forall_mem_append.mpr ⟨lw_r2, List.forall_mem_append.mpr ⟨lw_r3, lw_r4⟩⟩⟩
end
section
def RX0 : String := "VowRope$Acts"
def TX0 : u_T := fun k => match k with
  | 0 => ("VowRope$Acts", "states", "[I", true)
  | 1 => ("VowRope$Acts", "nextSlot", "I", false)
  | _ => ("VowRope$Acts", "kept", "I", false)
def tyX0 : Nat → FieldType := fun k => match k with
  | 0 => .array .int
  | 1 => .int
  | _ => .int
abbrev wsX00 : List Cond := u_ws RX0 TX0 3
theorem nmX0 : ∀ a, a < 3 → ∀ b, b < 3 → a ≠ b → (TX0 a).2.1 ≠ (TX0 b).2.1 := by decide +kernel
theorem tyX0_ok : ∀ k, k < 3 → parseFieldDescriptor (TX0 k).2.2.1 = some (tyX0 k) := by decide +kernel
abbrev cX0_init : ByteArray := prog_2_method_1_code
def yX0_init : MethodName := ⟨RX0, "<init>", "()V"⟩
abbrev cX0_forgetAll : ByteArray := prog_2_method_2_code
def yX0_forgetAll : MethodName := ⟨RX0, "forgetAll", "()V"⟩
abbrev cX0_keep : ByteArray := prog_2_method_3_code
def yX0_keep : MethodName := ⟨RX0, "keep", "(LVowRope$Walk;)V"⟩
abbrev cX0_takeBack : ByteArray := prog_2_method_4_code
def yX0_takeBack : MethodName := ⟨RX0, "takeBack", "(LVowRope$Walk;)V"⟩
def RX1 : String := "VowRope$Asks"
def TX1 : u_T := fun k => match k with
  | 0 => ("VowRope$Asks", "begun", "[I", true)
  | _ => ("VowRope$Asks", "traced", "I", false)
def tyX1 : Nat → FieldType := fun k => match k with
  | 0 => .array .int
  | _ => .int
abbrev wsX10 : List Cond := u_ws RX1 TX1 2
theorem nmX1 : ∀ a, a < 2 → ∀ b, b < 2 → a ≠ b → (TX1 a).2.1 ≠ (TX1 b).2.1 := by decide +kernel
theorem tyX1_ok : ∀ k, k < 2 → parseFieldDescriptor (TX1 k).2.2.1 = some (tyX1 k) := by decide +kernel
abbrev cX1_init : ByteArray := prog_3_method_1_code
def yX1_init : MethodName := ⟨RX1, "<init>", "()V"⟩
abbrev cX1_answer : ByteArray := prog_3_method_2_code
def yX1_answer : MethodName := ⟨RX1, "answer", "(LVowRope$Walk;II)I"⟩
abbrev cX1_give : ByteArray := prog_3_method_3_code
def yX1_give : MethodName := ⟨RX1, "give", "(LVowRope$Walk;III)I"⟩
abbrev cX1_leave : ByteArray := prog_3_method_4_code
def yX1_leave : MethodName := ⟨RX1, "leave", "(I)V"⟩
def RX2 : String := "VowRope$Best"
def TX2 : u_T := fun k => match k with
  | 0 => ("VowRope$Best", "strengths", "[I", true)
  | 1 => ("VowRope$Best", "behind", "[I", true)
  | 2 => ("VowRope$Best", "sums", "[I", true)
  | 3 => ("VowRope$Best", "trial", "[I", true)
  | 4 => ("VowRope$Best", "yarns", "I", false)
  | 5 => ("VowRope$Best", "strands", "[I", true)
  | _ => ("VowRope$Best", "least", "I", false)
def tyX2 : Nat → FieldType := fun k => match k with
  | 0 => .array .int
  | 1 => .array .int
  | 2 => .array .int
  | 3 => .array .int
  | 4 => .int
  | 5 => .array .int
  | _ => .int
abbrev wsX20 : List Cond := u_ws RX2 TX2 7
theorem nmX2 : ∀ a, a < 7 → ∀ b, b < 7 → a ≠ b → (TX2 a).2.1 ≠ (TX2 b).2.1 := by decide +kernel
theorem tyX2_ok : ∀ k, k < 7 → parseFieldDescriptor (TX2 k).2.2.1 = some (tyX2 k) := by decide +kernel
abbrev cX2_init : ByteArray := prog_4_method_1_code
def yX2_init : MethodName := ⟨RX2, "<init>", "()V"⟩
abbrev cX2_search : ByteArray := prog_4_method_2_code
def yX2_search : MethodName := ⟨RX2, "search", "(LVowRope$Walk;)V"⟩
abbrev cX2_layFrom : ByteArray := prog_4_method_3_code
def yX2_layFrom : MethodName := ⟨RX2, "layFrom", "(II)V"⟩
abbrev cX2_missing : ByteArray := prog_4_method_4_code
def yX2_missing : MethodName := ⟨RX2, "missing", "()I"⟩
def RX3 : String := "VowRope$Cheapest"
def TX3 : u_T := fun k => match k with
  | 0 => ("VowRope$Cheapest", "strengths", "[I", true)
  | _ => ("VowRope$Cheapest", "filled", "[I", true)
def tyX3 : Nat → FieldType := fun k => match k with
  | 0 => .array .int
  | _ => .array .int
abbrev wsX30 : List Cond := u_ws RX3 TX3 2
theorem nmX3 : ∀ a, a < 2 → ∀ b, b < 2 → a ≠ b → (TX3 a).2.1 ≠ (TX3 b).2.1 := by decide +kernel
theorem tyX3_ok : ∀ k, k < 2 → parseFieldDescriptor (TX3 k).2.2.1 = some (tyX3 k) := by decide +kernel
abbrev cX3_init : ByteArray := prog_5_method_1_code
def yX3_init : MethodName := ⟨RX3, "<init>", "()V"⟩
abbrev cX3_search : ByteArray := prog_5_method_2_code
def yX3_search : MethodName := ⟨RX3, "search", "(LVowRope$Walk;I)I"⟩
abbrev cX3_fillBest : ByteArray := prog_5_method_3_code
def yX3_fillBest : MethodName := ⟨RX3, "fillBest", "(III)I"⟩
def RX4 : String := "VowRope$Kinds"
def TX4 : u_T := fun k => match k with
  | _ => ("", "", "", false)
def tyX4 : Nat → FieldType := fun k => match k with
  | _ => .int
abbrev wsX40 : List Cond := u_ws RX4 TX4 0
theorem nmX4 : ∀ a, a < 0 → ∀ b, b < 0 → a ≠ b → (TX4 a).2.1 ≠ (TX4 b).2.1 := by decide +kernel
theorem tyX4_ok : ∀ k, k < 0 → parseFieldDescriptor (TX4 k).2.2.1 = some (tyX4 k) := by decide +kernel
abbrev cX4_isOne : ByteArray := prog_6_method_2_code
def yX4_isOne : MethodName := ⟨RX4, "isOne", "(II)Z"⟩
abbrev cX4_sizeBody : ByteArray := prog_6_method_3_code
def yX4_sizeBody : MethodName := ⟨RX4, "sizeBody", "(I)I"⟩
abbrev cX4_markBody : ByteArray := prog_6_method_4_code
def yX4_markBody : MethodName := ⟨RX4, "markBody", "(I)I"⟩
abbrev cX4_nearest : ByteArray := prog_6_method_5_code
def yX4_nearest : MethodName := ⟨RX4, "nearest", "([II)I"⟩
def RX5 : String := "VowRope$Odds"
def TX5 : u_T := fun k => match k with
  | 0 => ("VowRope$Odds", "sums", "[I", true)
  | 1 => ("VowRope$Odds", "need", "I", false)
  | 2 => ("VowRope$Odds", "above", "I", false)
  | _ => ("VowRope$Odds", "below", "I", false)
def tyX5 : Nat → FieldType := fun k => match k with
  | 0 => .array .int
  | 1 => .int
  | 2 => .int
  | _ => .int
abbrev wsX50 : List Cond := u_ws RX5 TX5 4
theorem nmX5 : ∀ a, a < 4 → ∀ b, b < 4 → a ≠ b → (TX5 a).2.1 ≠ (TX5 b).2.1 := by decide +kernel
theorem tyX5_ok : ∀ k, k < 4 → parseFieldDescriptor (TX5 k).2.2.1 = some (tyX5 k) := by decide +kernel
abbrev cX5_init : ByteArray := prog_7_method_1_code
def yX5_init : MethodName := ⟨RX5, "<init>", "()V"⟩
abbrev cX5_reckon : ByteArray := prog_7_method_2_code
def yX5_reckon : MethodName := ⟨RX5, "reckon", "(LVowRope$Walk;I)V"⟩
abbrev cX5_yearsFrom : ByteArray := prog_7_method_3_code
def yX5_yearsFrom : MethodName := ⟨RX5, "yearsFrom", "(LVowRope$Walk;I)I"⟩
abbrev cX5_divideByTwo : ByteArray := prog_7_method_4_code
def yX5_divideByTwo : MethodName := ⟨RX5, "divideByTwo", "()V"⟩
abbrev cX5_divideByFive : ByteArray := prog_7_method_5_code
def yX5_divideByFive : MethodName := ⟨RX5, "divideByFive", "()V"⟩
def RX6 : String := "VowRope$Reader"
def TX6 : u_T := fun k => match k with
  | 0 => ("VowRope$Reader", "tape", "LVowRope$Tape;", true)
  | _ => ("VowRope$Reader", "found", "I", false)
def tyX6 : Nat → FieldType := fun k => match k with
  | 0 => .object "VowRope$Tape"
  | _ => .int
abbrev wsX60 : List Cond := u_ws RX6 TX6 2
theorem nmX6 : ∀ a, a < 2 → ∀ b, b < 2 → a ≠ b → (TX6 a).2.1 ≠ (TX6 b).2.1 := by decide +kernel
theorem tyX6_ok : ∀ k, k < 2 → parseFieldDescriptor (TX6 k).2.2.1 = some (tyX6 k) := by decide +kernel
abbrev cX6_init : ByteArray := prog_8_method_1_code
def yX6_init : MethodName := ⟨RX6, "<init>", "()V"⟩
abbrev cX6_readInto : ByteArray := prog_8_method_2_code
def yX6_readInto : MethodName := ⟨RX6, "readInto", "(LVowRope$Walk;)V"⟩
abbrev cX6_readLaw : ByteArray := prog_8_method_3_code
def yX6_readLaw : MethodName := ⟨RX6, "readLaw", "(LVowRope$Walk;)V"⟩
abbrev cX6_readSpeaker : ByteArray := prog_8_method_4_code
def yX6_readSpeaker : MethodName := ⟨RX6, "readSpeaker", "(LVowRope$Walk;)V"⟩
abbrev cX6_readYarn : ByteArray := prog_8_method_5_code
def yX6_readYarn : MethodName := ⟨RX6, "readYarn", "(LVowRope$Walk;)V"⟩
abbrev cX6_takeSort : ByteArray := prog_8_method_6_code
def yX6_takeSort : MethodName := ⟨RX6, "takeSort", "()I"⟩
abbrev cX6_takeNumber : ByteArray := prog_8_method_7_code
def yX6_takeNumber : MethodName := ⟨RX6, "takeNumber", "(II)I"⟩
abbrev cX6_takeSign : ByteArray := prog_8_method_8_code
def yX6_takeSign : MethodName := ⟨RX6, "takeSign", "()V"⟩
def RX7 : String := "VowRope$Rows"
def TX7 : u_T := fun k => match k with
  | 0 => ("VowRope$Rows", "lanes", "[I", true)
  | 1 => ("VowRope$Rows", "sizes", "[I", true)
  | _ => ("VowRope$Rows", "items", "[I", true)
def tyX7 : Nat → FieldType := fun k => match k with
  | 0 => .array .int
  | 1 => .array .int
  | _ => .array .int
abbrev wsX70 : List Cond := u_ws RX7 TX7 3
theorem nmX7 : ∀ a, a < 3 → ∀ b, b < 3 → a ≠ b → (TX7 a).2.1 ≠ (TX7 b).2.1 := by decide +kernel
theorem tyX7_ok : ∀ k, k < 3 → parseFieldDescriptor (TX7 k).2.2.1 = some (tyX7 k) := by decide +kernel
abbrev cX7_init : ByteArray := prog_9_method_1_code
def yX7_init : MethodName := ⟨RX7, "<init>", "()V"⟩
abbrev cX7_isNumber : ByteArray := prog_9_method_2_code
def yX7_isNumber : MethodName := ⟨RX7, "isNumber", "(I)Z"⟩
abbrev cX7_isMissing : ByteArray := prog_9_method_3_code
def yX7_isMissing : MethodName := ⟨RX7, "isMissing", "(I)Z"⟩
abbrev cX7_laneOf : ByteArray := prog_9_method_4_code
def yX7_laneOf : MethodName := ⟨RX7, "laneOf", "(I)I"⟩
abbrev cX7_sizeOf : ByteArray := prog_9_method_5_code
def yX7_sizeOf : MethodName := ⟨RX7, "sizeOf", "(I)I"⟩
abbrev cX7_hasPlaces : ByteArray := prog_9_method_6_code
def yX7_hasPlaces : MethodName := ⟨RX7, "hasPlaces", "(III)Z"⟩
abbrev cX7_make : ByteArray := prog_9_method_7_code
def yX7_make : MethodName := ⟨RX7, "make", "(III)V"⟩
abbrev cX7_remove : ByteArray := prog_9_method_8_code
def yX7_remove : MethodName := ⟨RX7, "remove", "(I)V"⟩
abbrev cX7_put : ByteArray := prog_9_method_9_code
def yX7_put : MethodName := ⟨RX7, "put", "(III)I"⟩
abbrev cX7_move : ByteArray := prog_9_method_10_code
def yX7_move : MethodName := ⟨RX7, "move", "(IIIII)V"⟩
abbrev cX7_hasBelowZero : ByteArray := prog_9_method_11_code
def yX7_hasBelowZero : MethodName := ⟨RX7, "hasBelowZero", "(III)Z"⟩
abbrev cX7_countUpTo : ByteArray := prog_9_method_12_code
def yX7_countUpTo : MethodName := ⟨RX7, "countUpTo", "(IIII)I"⟩
abbrev cX7_howMany : ByteArray := prog_9_method_13_code
def yX7_howMany : MethodName := ⟨RX7, "howMany", "()I"⟩
def RX8 : String := "VowRope$Tape"
def TX8 : u_T := fun k => match k with
  | 0 => ("VowRope$Tape", "bytes", "[B", true)
  | 1 => ("VowRope$Tape", "length", "I", false)
  | 2 => ("VowRope$Tape", "token", "I", false)
  | 3 => ("VowRope$Tape", "start", "I", false)
  | 4 => ("VowRope$Tape", "value", "I", false)
  | _ => ("VowRope$Tape", "at", "I", false)
def tyX8 : Nat → FieldType := fun k => match k with
  | 0 => .array .byte
  | 1 => .int
  | 2 => .int
  | 3 => .int
  | 4 => .int
  | _ => .int
abbrev wsX80 : List Cond := u_ws RX8 TX8 6
theorem nmX8 : ∀ a, a < 6 → ∀ b, b < 6 → a ≠ b → (TX8 a).2.1 ≠ (TX8 b).2.1 := by decide +kernel
theorem tyX8_ok : ∀ k, k < 6 → parseFieldDescriptor (TX8 k).2.2.1 = some (tyX8 k) := by decide +kernel
abbrev cX8_init : ByteArray := prog_10_method_1_code
def yX8_init : MethodName := ⟨RX8, "<init>", "()V"⟩
abbrev cX8_hasRoom : ByteArray := prog_10_method_2_code
def yX8_hasRoom : MethodName := ⟨RX8, "hasRoom", "(I)Z"⟩
abbrev cX8_add : ByteArray := prog_10_method_3_code
def yX8_add : MethodName := ⟨RX8, "add", "(B)V"⟩
abbrev cX8_rewind : ByteArray := prog_10_method_4_code
def yX8_rewind : MethodName := ⟨RX8, "rewind", "()V"⟩
abbrev cX8_next : ByteArray := prog_10_method_5_code
def yX8_next : MethodName := ⟨RX8, "next", "()V"⟩
abbrev cX8_isWord : ByteArray := prog_10_method_6_code
def yX8_isWord : MethodName := ⟨RX8, "isWord", "(Ljava/lang/String;)Z"⟩
abbrev cX8_takeName : ByteArray := prog_10_method_7_code
def yX8_takeName : MethodName := ⟨RX8, "takeName", "()V"⟩
abbrev cX8_takeNumber : ByteArray := prog_10_method_8_code
def yX8_takeNumber : MethodName := ⟨RX8, "takeNumber", "()V"⟩
abbrev cX8_isBlank : ByteArray := prog_10_method_9_code
def yX8_isBlank : MethodName := ⟨RX8, "isBlank", "(B)Z"⟩
abbrev cX8_isLetter : ByteArray := prog_10_method_10_code
def yX8_isLetter : MethodName := ⟨RX8, "isLetter", "(B)Z"⟩
abbrev cX8_isFigure : ByteArray := prog_10_method_11_code
def yX8_isFigure : MethodName := ⟨RX8, "isFigure", "(B)Z"⟩
def RX9 : String := "VowRope$Walk"
def TX9 : u_T := fun k => match k with
  | 0 => ("VowRope$Walk", "told", "Z", false)
  | 1 => ("VowRope$Walk", "hemp", "I", false)
  | 2 => ("VowRope$Walk", "tar", "I", false)
  | 3 => ("VowRope$Walk", "speakers", "I", false)
  | 4 => ("VowRope$Walk", "yarns", "I", false)
  | 5 => ("VowRope$Walk", "truth", "[I", true)
  | 6 => ("VowRope$Walk", "price", "[I", true)
  | 7 => ("VowRope$Walk", "sort", "[I", true)
  | 8 => ("VowRope$Walk", "speaker", "[I", true)
  | 9 => ("VowRope$Walk", "fathom", "[I", true)
  | _ => ("VowRope$Walk", "state", "[I", true)
def tyX9 : Nat → FieldType := fun k => match k with
  | 0 => .boolean
  | 1 => .int
  | 2 => .int
  | 3 => .int
  | 4 => .int
  | 5 => .array .int
  | 6 => .array .int
  | 7 => .array .int
  | 8 => .array .int
  | 9 => .array .int
  | _ => .array .int
abbrev wsX90 : List Cond := u_ws RX9 TX9 11
theorem nmX9 : ∀ a, a < 11 → ∀ b, b < 11 → a ≠ b → (TX9 a).2.1 ≠ (TX9 b).2.1 := by decide +kernel
theorem tyX9_ok : ∀ k, k < 11 → parseFieldDescriptor (TX9 k).2.2.1 = some (tyX9 k) := by decide +kernel
abbrev cX9_init : ByteArray := prog_11_method_1_code
def yX9_init : MethodName := ⟨RX9, "<init>", "()V"⟩
abbrev cX9_begin : ByteArray := prog_11_method_2_code
def yX9_begin : MethodName := ⟨RX9, "begin", "()V"⟩
abbrev cX9_becomeAs : ByteArray := prog_11_method_3_code
def yX9_becomeAs : MethodName := ⟨RX9, "becomeAs", "(LVowRope$Walk;)V"⟩
abbrev cX9_hasYarn : ByteArray := prog_11_method_4_code
def yX9_hasYarn : MethodName := ⟨RX9, "hasYarn", "(I)Z"⟩
abbrev cX9_isLaid : ByteArray := prog_11_method_5_code
def yX9_isLaid : MethodName := ⟨RX9, "isLaid", "(I)Z"⟩
abbrev cX9_strength : ByteArray := prog_11_method_6_code
def yX9_strength : MethodName := ⟨RX9, "strength", "(I)I"⟩
abbrev cX9_strengthIf : ByteArray := prog_11_method_7_code
def yX9_strengthIf : MethodName := ⟨RX9, "strengthIf", "(II)I"⟩
abbrev cX9_strandBears : ByteArray := prog_11_method_8_code
def yX9_strandBears : MethodName := ⟨RX9, "strandBears", "(I)I"⟩
abbrev cX9_ropeBears : ByteArray := prog_11_method_9_code
def yX9_ropeBears : MethodName := ⟨RX9, "ropeBears", "()I"⟩
abbrev cX9_ropeBearsWithout : ByteArray := prog_11_method_10_code
def yX9_ropeBearsWithout : MethodName := ⟨RX9, "ropeBearsWithout", "(I)I"⟩
abbrev cX9_strandBearsWithout : ByteArray := prog_11_method_11_code
def yX9_strandBearsWithout : MethodName := ⟨RX9, "strandBearsWithout", "(II)I"⟩
abbrev cX9_weakestStrand : ByteArray := prog_11_method_12_code
def yX9_weakestStrand : MethodName := ⟨RX9, "weakestStrand", "()I"⟩
abbrev cX9_part : ByteArray := prog_11_method_13_code
def yX9_part : MethodName := ⟨RX9, "part", "(I)V"⟩
abbrev cX9_wearLaid : ByteArray := prog_11_method_14_code
def yX9_wearLaid : MethodName := ⟨RX9, "wearLaid", "()V"⟩
abbrev cX9_isDrawn : ByteArray := prog_11_method_15_code
def yX9_isDrawn : MethodName := ⟨RX9, "isDrawn", "(I)Z"⟩
abbrev cX9_keptInTen : ByteArray := prog_11_method_16_code
def yX9_keptInTen : MethodName := ⟨RX9, "keptInTen", "(I)I"⟩
abbrev cX9_priceOf : ByteArray := prog_11_method_17_code
def yX9_priceOf : MethodName := ⟨RX9, "priceOf", "(I)I"⟩
abbrev cX9_laidYarns : ByteArray := prog_11_method_18_code
def yX9_laidYarns : MethodName := ⟨RX9, "laidYarns", "()I"⟩
abbrev cX9_brokenVows : ByteArray := prog_11_method_19_code
def yX9_brokenVows : MethodName := ⟨RX9, "brokenVows", "()I"⟩
def RX10 : String := "VowRope"
def TX10 : u_T := fun k => match k with
  | 0 => ("VowRope", "rows", "LVowRope$Rows;", true)
  | 1 => ("VowRope", "reader", "LVowRope$Reader;", true)
  | 2 => ("VowRope", "now", "LVowRope$Walk;", true)
  | 3 => ("VowRope", "spare", "LVowRope$Walk;", true)
  | 4 => ("VowRope", "images", "[LVowRope$Walk;", true)
  | 5 => ("VowRope", "acts", "LVowRope$Acts;", true)
  | 6 => ("VowRope", "bestLaying", "LVowRope$Best;", true)
  | 7 => ("VowRope", "cheapestSet", "LVowRope$Cheapest;", true)
  | 8 => ("VowRope", "yearOdds", "LVowRope$Odds;", true)
  | 9 => ("VowRope", "asks", "LVowRope$Asks;", true)
  | 10 => ("VowRope", "latestFault", "I", false)
  | _ => ("VowRope", "latestFinding", "I", false)
def tyX10 : Nat → FieldType := fun k => match k with
  | 0 => .object "VowRope$Rows"
  | 1 => .object "VowRope$Reader"
  | 2 => .object "VowRope$Walk"
  | 3 => .object "VowRope$Walk"
  | 4 => .array (.object "VowRope$Walk")
  | 5 => .object "VowRope$Acts"
  | 6 => .object "VowRope$Best"
  | 7 => .object "VowRope$Cheapest"
  | 8 => .object "VowRope$Odds"
  | 9 => .object "VowRope$Asks"
  | 10 => .int
  | _ => .int
abbrev wsX100 : List Cond := u_ws RX10 TX10 12
theorem nmX10 : ∀ a, a < 12 → ∀ b, b < 12 → a ≠ b → (TX10 a).2.1 ≠ (TX10 b).2.1 := by decide +kernel
theorem tyX10_ok : ∀ k, k < 12 → parseFieldDescriptor (TX10 k).2.2.1 = some (tyX10 k) := by decide +kernel
abbrev cX10_init : ByteArray := prog_1_method_1_code
def yX10_init : MethodName := ⟨RX10, "<init>", "()V"⟩
abbrev cX10_row : ByteArray := prog_1_method_2_code
def yX10_row : MethodName := ⟨RX10, "row", "(III)I"⟩
abbrev cX10_set : ByteArray := prog_1_method_3_code
def yX10_set : MethodName := ⟨RX10, "set", "(III)I"⟩
abbrev cX10_copy : ByteArray := prog_1_method_4_code
def yX10_copy : MethodName := ⟨RX10, "copy", "(IIIII)I"⟩
abbrev cX10_drop : ByteArray := prog_1_method_5_code
def yX10_drop : MethodName := ⟨RX10, "drop", "(I)I"⟩
abbrev cX10_feed : ByteArray := prog_1_method_6_code
def yX10_feed : MethodName := ⟨RX10, "feed", "(JI)I"⟩
abbrev cX10_walk : ByteArray := prog_1_method_7_code
def yX10_walk : MethodName := ⟨RX10, "walk", "()I"⟩
abbrev cX10_fault : ByteArray := prog_1_method_8_code
def yX10_fault : MethodName := ⟨RX10, "fault", "()I"⟩
abbrev cX10_lay : ByteArray := prog_1_method_9_code
def yX10_lay : MethodName := ⟨RX10, "lay", "(II)I"⟩
abbrev cX10_pitch : ByteArray := prog_1_method_10_code
def yX10_pitch : MethodName := ⟨RX10, "pitch", "(I)I"⟩
abbrev cX10_vow : ByteArray := prog_1_method_11_code
def yX10_vow : MethodName := ⟨RX10, "vow", "(II)I"⟩
abbrev cX10_splice : ByteArray := prog_1_method_12_code
def yX10_splice : MethodName := ⟨RX10, "splice", "(I)I"⟩
abbrev cX10_pull : ByteArray := prog_1_method_13_code
def yX10_pull : MethodName := ⟨RX10, "pull", "(II)I"⟩
abbrev cX10_year : ByteArray := prog_1_method_14_code
def yX10_year : MethodName := ⟨RX10, "year", "(I)I"⟩
abbrev cX10_undo : ByteArray := prog_1_method_15_code
def yX10_undo : MethodName := ⟨RX10, "undo", "()I"⟩
abbrev cX10_yarn : ByteArray := prog_1_method_16_code
def yX10_yarn : MethodName := ⟨RX10, "yarn", "(II)I"⟩
abbrev cX10_bears : ByteArray := prog_1_method_17_code
def yX10_bears : MethodName := ⟨RX10, "bears", "(I)I"⟩
abbrev cX10_best : ByteArray := prog_1_method_18_code
def yX10_best : MethodName := ⟨RX10, "best", "(I)I"⟩
abbrev cX10_cheapest : ByteArray := prog_1_method_19_code
def yX10_cheapest : MethodName := ⟨RX10, "cheapest", "(II)I"⟩
abbrev cX10_odds : ByteArray := prog_1_method_20_code
def yX10_odds : MethodName := ⟨RX10, "odds", "(II)I"⟩
abbrev cX10_risk : ByteArray := prog_1_method_21_code
def yX10_risk : MethodName := ⟨RX10, "risk", "(III)I"⟩
abbrev cX10_whose : ByteArray := prog_1_method_22_code
def yX10_whose : MethodName := ⟨RX10, "whose", "(II)I"⟩
abbrev cX10_geese : ByteArray := prog_1_method_23_code
def yX10_geese : MethodName := ⟨RX10, "geese", "(I)I"⟩
abbrev cX10_fathoms : ByteArray := prog_1_method_24_code
def yX10_fathoms : MethodName := ⟨RX10, "fathoms", "(I)I"⟩
abbrev cX10_image : ByteArray := prog_1_method_25_code
def yX10_image : MethodName := ⟨RX10, "image", "(I)I"⟩
abbrev cX10_restore : ByteArray := prog_1_method_26_code
def yX10_restore : MethodName := ⟨RX10, "restore", "(I)I"⟩
abbrev cX10_kind : ByteArray := prog_1_method_27_code
def yX10_kind : MethodName := ⟨RX10, "kind", "(I)I"⟩
abbrev cX10_as : ByteArray := prog_1_method_28_code
def yX10_as : MethodName := ⟨RX10, "as", "(II)I"⟩
abbrev cX10_ask : ByteArray := prog_1_method_29_code
def yX10_ask : MethodName := ⟨RX10, "ask", "(II)I"⟩
abbrev cX10_trace : ByteArray := prog_1_method_30_code
def yX10_trace : MethodName := ⟨RX10, "trace", "(I)I"⟩
abbrev cX10_count : ByteArray := prog_1_method_31_code
def yX10_count : MethodName := ⟨RX10, "count", "(I)I"⟩
abbrev cX10_status : ByteArray := prog_1_method_32_code
def yX10_status : MethodName := ⟨RX10, "status", "()I"⟩
abbrev cX10_found : ByteArray := prog_1_method_33_code
def yX10_found : MethodName := ⟨RX10, "found", "(I)I"⟩
abbrev cX10_foundNothing : ByteArray := prog_1_method_34_code
def yX10_foundNothing : MethodName := ⟨RX10, "foundNothing", "(I)I"⟩
abbrev cX10_isLoad : ByteArray := prog_1_method_35_code
def yX10_isLoad : MethodName := ⟨RX10, "isLoad", "(I)Z"⟩
abbrev cX10_isSeed : ByteArray := prog_1_method_36_code
def yX10_isSeed : MethodName := ⟨RX10, "isSeed", "(I)Z"⟩
abbrev cX10_nextX : ByteArray := prog_1_method_37_code
def yX10_nextX : MethodName := ⟨RX10, "nextX", "(I)I"⟩
def RX11 : String := "VowRopeModel"
def TX11 : u_T := fun k => match k with
  | 0 => ("VowRopeModel", "thrown", "I", false)
  | 1 => ("VowRopeModel", "status", "I", false)
  | 2 => ("VowRopeModel", "lane", "[I", true)
  | 3 => ("VowRopeModel", "many", "[I", true)
  | 4 => ("VowRopeModel", "item", "[I", true)
  | 5 => ("VowRopeModel", "walk", "[I", true)
  | 6 => ("VowRopeModel", "fresh", "[I", true)
  | 7 => ("VowRopeModel", "isThere", "Z", false)
  | 8 => ("VowRopeModel", "was", "[I", true)
  | 9 => ("VowRopeModel", "acts", "I", false)
  | 10 => ("VowRopeModel", "tape", "[I", true)
  | 11 => ("VowRopeModel", "taped", "I", false)
  | 12 => ("VowRopeModel", "latest", "I", false)
  | 13 => ("VowRopeModel", "length", "I", false)
  | 14 => ("VowRopeModel", "cursor", "I", false)
  | 15 => ("VowRopeModel", "token", "I", false)
  | 16 => ("VowRopeModel", "start", "I", false)
  | 17 => ("VowRopeModel", "till", "I", false)
  | 18 => ("VowRopeModel", "fault", "I", false)
  | 19 => ("VowRopeModel", "faultAt", "I", false)
  | 20 => ("VowRopeModel", "strand", "[I", true)
  | 21 => ("VowRopeModel", "drawn", "J", false)
  | 22 => ("VowRopeModel", "bestRow", "I", false)
  | 23 => ("VowRopeModel", "together", "[I", true)
  | 24 => ("VowRopeModel", "strands", "[I", true)
  | 25 => ("VowRopeModel", "isImage", "[Z", true)
  | 26 => ("VowRopeModel", "kept", "[I", true)
  | 27 => ("VowRopeModel", "trace", "[I", true)
  | _ => ("VowRopeModel", "traced", "I", false)
def tyX11 : Nat → FieldType := fun k => match k with
  | 0 => .int
  | 1 => .int
  | 2 => .array .int
  | 3 => .array .int
  | 4 => .array .int
  | 5 => .array .int
  | 6 => .array .int
  | 7 => .boolean
  | 8 => .array .int
  | 9 => .int
  | 10 => .array .int
  | 11 => .int
  | 12 => .int
  | 13 => .int
  | 14 => .int
  | 15 => .int
  | 16 => .int
  | 17 => .int
  | 18 => .int
  | 19 => .int
  | 20 => .array .int
  | 21 => .long
  | 22 => .int
  | 23 => .array .int
  | 24 => .array .int
  | 25 => .array .boolean
  | 26 => .array .int
  | 27 => .array .int
  | _ => .int
abbrev wsX110 : List Cond := u_ws RX11 TX11 29
theorem nmX11 : ∀ a, a < 29 → ∀ b, b < 29 → a ≠ b → (TX11 a).2.1 ≠ (TX11 b).2.1 := by decide +kernel
theorem tyX11_ok : ∀ k, k < 29 → parseFieldDescriptor (TX11 k).2.2.1 = some (tyX11 k) := by decide +kernel
abbrev cX11_init : ByteArray := prog_13_method_1_code
def yX11_init : MethodName := ⟨RX11, "<init>", "()V"⟩
abbrev cX11_in : ByteArray := prog_13_method_3_code
def yX11_in : MethodName := ⟨RX11, "in", "(JJJ)Z"⟩
abbrev cX11_finding : ByteArray := prog_13_method_4_code
def yX11_finding : MethodName := ⟨RX11, "finding", "(I)I"⟩
abbrev cX11_isRow : ByteArray := prog_13_method_5_code
def yX11_isRow : MethodName := ⟨RX11, "isRow", "(I)Z"⟩
abbrev cX11_row : ByteArray := prog_13_method_6_code
def yX11_row : MethodName := ⟨RX11, "row", "(III)I"⟩
abbrev cX11_set : ByteArray := prog_13_method_7_code
def yX11_set : MethodName := ⟨RX11, "set", "(III)I"⟩
abbrev cX11_copy : ByteArray := prog_13_method_8_code
def yX11_copy : MethodName := ⟨RX11, "copy", "(IIIII)I"⟩
abbrev cX11_drop : ByteArray := prog_13_method_9_code
def yX11_drop : MethodName := ⟨RX11, "drop", "(I)I"⟩
abbrev cX11_feed : ByteArray := prog_13_method_10_code
def yX11_feed : MethodName := ⟨RX11, "feed", "(JI)I"⟩
abbrev cX11_byteAt : ByteArray := prog_13_method_11_code
def yX11_byteAt : MethodName := ⟨RX11, "byteAt", "(I)I"⟩
abbrev cX11_isLetter : ByteArray := prog_13_method_12_code
def yX11_isLetter : MethodName := ⟨RX11, "isLetter", "(I)Z"⟩
abbrev cX11_isFigure : ByteArray := prog_13_method_13_code
def yX11_isFigure : MethodName := ⟨RX11, "isFigure", "(I)Z"⟩
abbrev cX11_next : ByteArray := prog_13_method_14_code
def yX11_next : MethodName := ⟨RX11, "next", "()V"⟩
abbrev cX11_begin : ByteArray := prog_13_method_15_code
def yX11_begin : MethodName := ⟨RX11, "begin", "()V"⟩
abbrev cX11_bad : ByteArray := prog_13_method_16_code
def yX11_bad : MethodName := ⟨RX11, "bad", "(I)V"⟩
abbrev cX11_must : ByteArray := prog_13_method_17_code
def yX11_must : MethodName := ⟨RX11, "must", "(Z)V"⟩
abbrev cX11_name : ByteArray := prog_13_method_18_code
def yX11_name : MethodName := ⟨RX11, "name", "()J"⟩
abbrev cX11_figures : ByteArray := prog_13_method_19_code
def yX11_figures : MethodName := ⟨RX11, "figures", "()I"⟩
abbrev cX11_number : ByteArray := prog_13_method_20_code
def yX11_number : MethodName := ⟨RX11, "number", "(II)I"⟩
abbrev cX11_kindBy : ByteArray := prog_13_method_21_code
def yX11_kindBy : MethodName := ⟨RX11, "kindBy", "(J)I"⟩
abbrev cX11_mustEnd : ByteArray := prog_13_method_22_code
def yX11_mustEnd : MethodName := ⟨RX11, "mustEnd", "()V"⟩
abbrev cX11_begins : ByteArray := prog_13_method_23_code
def yX11_begins : MethodName := ⟨RX11, "begins", "(II)V"⟩
abbrev cX11_readSpeaker : ByteArray := prog_13_method_24_code
def yX11_readSpeaker : MethodName := ⟨RX11, "readSpeaker", "()V"⟩
abbrev cX11_readYarn : ByteArray := prog_13_method_25_code
def yX11_readYarn : MethodName := ⟨RX11, "readYarn", "()V"⟩
abbrev cX11_walk : ByteArray := prog_13_method_26_code
def yX11_walk : MethodName := ⟨RX11, "walk", "()I"⟩
abbrev cX11_fault : ByteArray := prog_13_method_27_code
def yX11_fault : MethodName := ⟨RX11, "fault", "()I"⟩
abbrev cX11_isYarn : ByteArray := prog_13_method_28_code
def yX11_isYarn : MethodName := ⟨RX11, "isYarn", "(I)Z"⟩
abbrev cX11_isSpeaker : ByteArray := prog_13_method_29_code
def yX11_isSpeaker : MethodName := ⟨RX11, "isSpeaker", "(I)Z"⟩
abbrev cX11_isSeed : ByteArray := prog_13_method_30_code
def yX11_isSeed : MethodName := ⟨RX11, "isSeed", "(I)Z"⟩
abbrev cX11_isLoad : ByteArray := prog_13_method_31_code
def yX11_isLoad : MethodName := ⟨RX11, "isLoad", "(I)Z"⟩
abbrev cX11_of : ByteArray := prog_13_method_32_code
def yX11_of : MethodName := ⟨RX11, "of", "(II)I"⟩
abbrev cX11_becomes : ByteArray := prog_13_method_33_code
def yX11_becomes : MethodName := ⟨RX11, "becomes", "(III)V"⟩
abbrev cX11_truthOf : ByteArray := prog_13_method_34_code
def yX11_truthOf : MethodName := ⟨RX11, "truthOf", "(I)I"⟩
abbrev cX11_priceOf : ByteArray := prog_13_method_35_code
def yX11_priceOf : MethodName := ⟨RX11, "priceOf", "(I)I"⟩
abbrev cX11_strengthBy : ByteArray := prog_13_method_36_code
def yX11_strengthBy : MethodName := ⟨RX11, "strengthBy", "(II)I"⟩
abbrev cX11_strength : ByteArray := prog_13_method_37_code
def yX11_strength : MethodName := ⟨RX11, "strength", "(I)I"⟩
abbrev cX11_noStrands : ByteArray := prog_13_method_38_code
def yX11_noStrands : MethodName := ⟨RX11, "noStrands", "()V"⟩
abbrev cX11_layStrands : ByteArray := prog_13_method_39_code
def yX11_layStrands : MethodName := ⟨RX11, "layStrands", "()V"⟩
abbrev cX11_weakest : ByteArray := prog_13_method_40_code
def yX11_weakest : MethodName := ⟨RX11, "weakest", "()I"⟩
abbrev cX11_ropeBears : ByteArray := prog_13_method_41_code
def yX11_ropeBears : MethodName := ⟨RX11, "ropeBears", "()I"⟩
abbrev cX11_keep : ByteArray := prog_13_method_42_code
def yX11_keep : MethodName := ⟨RX11, "keep", "()V"⟩
abbrev cX11_lay : ByteArray := prog_13_method_43_code
def yX11_lay : MethodName := ⟨RX11, "lay", "(II)I"⟩
abbrev cX11_pitch : ByteArray := prog_13_method_44_code
def yX11_pitch : MethodName := ⟨RX11, "pitch", "(I)I"⟩
abbrev cX11_vow : ByteArray := prog_13_method_45_code
def yX11_vow : MethodName := ⟨RX11, "vow", "(II)I"⟩
abbrev cX11_splice : ByteArray := prog_13_method_46_code
def yX11_splice : MethodName := ⟨RX11, "splice", "(I)I"⟩
abbrev cX11_draw : ByteArray := prog_13_method_47_code
def yX11_draw : MethodName := ⟨RX11, "draw", "(I)I"⟩
abbrev cX11_pull : ByteArray := prog_13_method_48_code
def yX11_pull : MethodName := ⟨RX11, "pull", "(II)I"⟩
abbrev cX11_year : ByteArray := prog_13_method_49_code
def yX11_year : MethodName := ⟨RX11, "year", "(I)I"⟩
abbrev cX11_undo : ByteArray := prog_13_method_50_code
def yX11_undo : MethodName := ⟨RX11, "undo", "()I"⟩
abbrev cX11_yarn : ByteArray := prog_13_method_51_code
def yX11_yarn : MethodName := ⟨RX11, "yarn", "(II)I"⟩
abbrev cX11_bears : ByteArray := prog_13_method_52_code
def yX11_bears : MethodName := ⟨RX11, "bears", "(I)I"⟩
abbrev cX11_bearsBy : ByteArray := prog_13_method_53_code
def yX11_bearsBy : MethodName := ⟨RX11, "bearsBy", "(I)I"⟩
abbrev cX11_layBest : ByteArray := prog_13_method_54_code
def yX11_layBest : MethodName := ⟨RX11, "layBest", "()I"⟩
abbrev cX11_best : ByteArray := prog_13_method_55_code
def yX11_best : MethodName := ⟨RX11, "best", "(I)I"⟩
abbrev cX11_layTogether : ByteArray := prog_13_method_56_code
def yX11_layTogether : MethodName := ⟨RX11, "layTogether", "(I)V"⟩
abbrev cX11_costOf : ByteArray := prog_13_method_57_code
def yX11_costOf : MethodName := ⟨RX11, "costOf", "(I)I"⟩
abbrev cX11_cheapest : ByteArray := prog_13_method_58_code
def yX11_cheapest : MethodName := ⟨RX11, "cheapest", "(II)I"⟩
abbrev cX11_bearsIf : ByteArray := prog_13_method_59_code
def yX11_bearsIf : MethodName := ⟨RX11, "bearsIf", "(I)I"⟩
abbrev cX11_tenthsOf : ByteArray := prog_13_method_60_code
def yX11_tenthsOf : MethodName := ⟨RX11, "tenthsOf", "(I)I"⟩
abbrev cX11_odds : ByteArray := prog_13_method_61_code
def yX11_odds : MethodName := ⟨RX11, "odds", "(II)I"⟩
abbrev cX11_risk : ByteArray := prog_13_method_62_code
def yX11_risk : MethodName := ⟨RX11, "risk", "(III)I"⟩
abbrev cX11_whose : ByteArray := prog_13_method_63_code
def yX11_whose : MethodName := ⟨RX11, "whose", "(II)I"⟩
abbrev cX11_geese : ByteArray := prog_13_method_64_code
def yX11_geese : MethodName := ⟨RX11, "geese", "(I)I"⟩
abbrev cX11_fathoms : ByteArray := prog_13_method_65_code
def yX11_fathoms : MethodName := ⟨RX11, "fathoms", "(I)I"⟩
abbrev cX11_image : ByteArray := prog_13_method_66_code
def yX11_image : MethodName := ⟨RX11, "image", "(I)I"⟩
abbrev cX11_restore : ByteArray := prog_13_method_67_code
def yX11_restore : MethodName := ⟨RX11, "restore", "(I)I"⟩
abbrev cX11_isOf : ByteArray := prog_13_method_68_code
def yX11_isOf : MethodName := ⟨RX11, "isOf", "(II)Z"⟩
abbrev cX11_kind : ByteArray := prog_13_method_69_code
def yX11_kind : MethodName := ⟨RX11, "kind", "(I)I"⟩
abbrev cX11_as : ByteArray := prog_13_method_70_code
def yX11_as : MethodName := ⟨RX11, "as", "(II)I"⟩
abbrev cX11_began : ByteArray := prog_13_method_71_code
def yX11_began : MethodName := ⟨RX11, "began", "(I)V"⟩
abbrev cX11_plainSize : ByteArray := prog_13_method_72_code
def yX11_plainSize : MethodName := ⟨RX11, "plainSize", "(I)I"⟩
abbrev cX11_lieSize : ByteArray := prog_13_method_73_code
def yX11_lieSize : MethodName := ⟨RX11, "lieSize", "(I)I"⟩
abbrev cX11_markOf : ByteArray := prog_13_method_74_code
def yX11_markOf : MethodName := ⟨RX11, "markOf", "(I)I"⟩
abbrev cX11_sizeOf : ByteArray := prog_13_method_75_code
def yX11_sizeOf : MethodName := ⟨RX11, "sizeOf", "(I)I"⟩
abbrev cX11_ask : ByteArray := prog_13_method_76_code
def yX11_ask : MethodName := ⟨RX11, "ask", "(II)I"⟩
abbrev cX11_trace : ByteArray := prog_13_method_77_code
def yX11_trace : MethodName := ⟨RX11, "trace", "(I)I"⟩
abbrev cX11_count : ByteArray := prog_13_method_78_code
def yX11_count : MethodName := ⟨RX11, "count", "(I)I"⟩
abbrev cX11_status : ByteArray := prog_13_method_79_code
def yX11_status : MethodName := ⟨RX11, "status", "()I"⟩
def RJ6 : String := "java/lang/Integer"
def TJ6 : u_T := fun k => match k with
  | _ => ("", "", "", false)
def tyJ6 : Nat → FieldType := fun k => match k with
  | _ => .int
abbrev wsJ60 : List Cond := u_ws RJ6 TJ6 0
theorem nmJ6 : ∀ a, a < 0 → ∀ b, b < 0 → a ≠ b → (TJ6 a).2.1 ≠ (TJ6 b).2.1 := by decide +kernel
theorem tyJ6_ok : ∀ k, k < 0 → parseFieldDescriptor (TJ6 k).2.2.1 = some (tyJ6 k) := by decide +kernel
abbrev cJ6_bitCount_0f7a4 : ByteArray := prog_14_method_49_code
def yJ6_bitCount_0f7a4 : MethodName := ⟨RJ6, "bitCount", "(I)I"⟩
def RJ9 : String := "java/lang/Math"
def TJ9 : u_T := fun k => match k with
  | _ => ("", "", "", false)
def tyJ9 : Nat → FieldType := fun k => match k with
  | _ => .int
abbrev wsJ90 : List Cond := u_ws RJ9 TJ9 0
theorem nmJ9 : ∀ a, a < 0 → ∀ b, b < 0 → a ≠ b → (TJ9 a).2.1 ≠ (TJ9 b).2.1 := by decide +kernel
theorem tyJ9_ok : ∀ k, k < 0 → parseFieldDescriptor (TJ9 k).2.2.1 = some (tyJ9 k) := by decide +kernel
abbrev cJ9_max_7cf53 : ByteArray := prog_15_method_65_code
def yJ9_max_7cf53 : MethodName := ⟨RJ9, "max", "(II)I"⟩
abbrev cJ9_min_7cf53 : ByteArray := prog_15_method_69_code
def yJ9_min_7cf53 : MethodName := ⟨RJ9, "min", "(II)I"⟩
def RJ0 : String := "java/lang/String"
def TJ0 : u_T := fun k => match k with
  | _ => ("", "", "", false)
def tyJ0 : Nat → FieldType := fun k => match k with
  | _ => .int
abbrev wsJ00 : List Cond := u_ws RJ0 TJ0 0
theorem nmJ0 : ∀ a, a < 0 → ∀ b, b < 0 → a ≠ b → (TJ0 a).2.1 ≠ (TJ0 b).2.1 := by decide +kernel
theorem tyJ0_ok : ∀ k, k < 0 → parseFieldDescriptor (TJ0 k).2.2.1 = some (tyJ0 k) := by decide +kernel
abbrev cJ0_length_8abf5 : ByteArray := prog_16_method_54_code
def yJ0_length_8abf5 : MethodName := ⟨RJ0, "length", "()I"⟩
abbrev cJ0_charAt_5068e : ByteArray := prog_16_method_56_code
def yJ0_charAt_5068e : MethodName := ⟨RJ0, "charAt", "(I)C"⟩
abbrev cJ0_coder_7d493 : ByteArray := prog_16_method_152_code
def yJ0_coder_7d493 : MethodName := ⟨RJ0, "coder", "()B"⟩
abbrev cJ0_isLatin1_aae02 : ByteArray := prog_16_method_154_code
def yJ0_isLatin1_aae02 : MethodName := ⟨RJ0, "isLatin1", "()Z"⟩
abbrev cJ0_checkIndex_df160 : ByteArray := prog_16_method_155_code
def yJ0_checkIndex_df160 : MethodName := ⟨RJ0, "checkIndex", "(II)V"⟩
def RJ1 : String := "java/lang/StringLatin1"
def TJ1 : u_T := fun k => match k with
  | _ => ("", "", "", false)
def tyJ1 : Nat → FieldType := fun k => match k with
  | _ => .int
abbrev wsJ10 : List Cond := u_ws RJ1 TJ1 0
theorem nmJ1 : ∀ a, a < 0 → ∀ b, b < 0 → a ≠ b → (TJ1 a).2.1 ≠ (TJ1 b).2.1 := by decide +kernel
theorem tyJ1_ok : ∀ k, k < 0 → parseFieldDescriptor (TJ1 k).2.2.1 = some (tyJ1 k) := by decide +kernel
abbrev cJ1_charAt_3b067 : ByteArray := prog_17_method_2_code
def yJ1_charAt_3b067 : MethodName := ⟨RJ1, "charAt", "([BI)C"⟩
def RJ2 : String := "java/lang/StringUTF16"
def TJ2 : u_T := fun k => match k with
  | _ => ("", "", "", false)
def tyJ2 : Nat → FieldType := fun k => match k with
  | _ => .int
abbrev wsJ20 : List Cond := u_ws RJ2 TJ2 0
theorem nmJ2 : ∀ a, a < 0 → ∀ b, b < 0 → a ≠ b → (TJ2 a).2.1 ≠ (TJ2 b).2.1 := by decide +kernel
theorem tyJ2_ok : ∀ k, k < 0 → parseFieldDescriptor (TJ2 k).2.2.1 = some (tyJ2 k) := by decide +kernel
abbrev cJ2_getChar_3b067 : ByteArray := prog_18_method_5_code
def yJ2_getChar_3b067 : MethodName := ⟨RJ2, "getChar", "([BI)C"⟩
abbrev cJ2_length_9d52b : ByteArray := prog_18_method_6_code
def yJ2_length_9d52b : MethodName := ⟨RJ2, "length", "([B)I"⟩
abbrev cJ2_charAt_3b067 : ByteArray := prog_18_method_83_code
def yJ2_charAt_3b067 : MethodName := ⟨RJ2, "charAt", "([BI)C"⟩
abbrev cJ2_checkIndex_2214a : ByteArray := prog_18_method_91_code
def yJ2_checkIndex_2214a : MethodName := ⟨RJ2, "checkIndex", "(I[B)V"⟩
def RJ10 : String := "java/lang/System"
def TJ10 : u_T := fun k => match k with
  | _ => ("", "", "", false)
def tyJ10 : Nat → FieldType := fun k => match k with
  | _ => .int
abbrev wsJ100 : List Cond := u_ws RJ10 TJ10 0
theorem nmJ10 : ∀ a, a < 0 → ∀ b, b < 0 → a ≠ b → (TJ10 a).2.1 ≠ (TJ10 b).2.1 := by decide +kernel
theorem tyJ10_ok : ∀ k, k < 0 → parseFieldDescriptor (TJ10 k).2.2.1 = some (tyJ10 k) := by decide +kernel
def RJ3 : String := "jdk/internal/util/Preconditions"
def TJ3 : u_T := fun k => match k with
  | _ => ("", "", "", false)
def tyJ3 : Nat → FieldType := fun k => match k with
  | _ => .int
abbrev wsJ30 : List Cond := u_ws RJ3 TJ3 0
theorem nmJ3 : ∀ a, a < 0 → ∀ b, b < 0 → a ≠ b → (TJ3 a).2.1 ≠ (TJ3 b).2.1 := by decide +kernel
theorem tyJ3_ok : ∀ k, k < 0 → parseFieldDescriptor (TJ3 k).2.2.1 = some (tyJ3 k) := by decide +kernel
abbrev cJ3_checkIndex_8e157 : ByteArray := prog_20_method_11_code
def yJ3_checkIndex_8e157 : MethodName := ⟨RJ3, "checkIndex", "(IILjava/util/function/BiFunction;)I"⟩
def RL : String := "VowRopeLaw"
abbrev cL_law : ByteArray := code
def yL_law : MethodName := ⟨RL, "law", "([I)Z"⟩
abbrev vwCl : List vw_C := [(RX0, TX0, 3), (RX1, TX1, 2), (RX2, TX2, 7), (RX3, TX3, 2), (RX5, TX5, 4), (RX6, TX6, 2), (RX7, TX7, 3), (RX8, TX8, 6), (RX9, TX9, 11), (RX10, TX10, 12), (RX11, TX11, 29)]
end
section
theorem dX0_init_0 : decode cX0_init 0 = .ok (.aload_n 0, 1) := by decide +kernel
theorem dX0_init_1 : decode cX0_init 1 = .ok (.invokespecial 1, 3) := by decide +kernel
theorem dX0_init_4 : decode cX0_init 4 = .ok (.aload_n 0, 1) := by decide +kernel
theorem dX0_init_5 : decode cX0_init 5 = .ok (.sipush 864, 3) := by decide +kernel
theorem dX0_init_8 : decode cX0_init 8 = .ok (.newarray .int, 2) := by decide +kernel
theorem dX0_init_10 : decode cX0_init 10 = .ok (.putfield 11, 3) := by decide +kernel
theorem dX0_init_13 : decode cX0_init 13 = .ok (.aload_n 0, 1) := by decide +kernel
theorem dX0_init_14 : decode cX0_init 14 = .ok (.iconst 0, 1) := by decide +kernel
theorem dX0_init_15 : decode cX0_init 15 = .ok (.putfield 15, 3) := by decide +kernel
theorem dX0_init_18 : decode cX0_init 18 = .ok (.aload_n 0, 1) := by decide +kernel
theorem dX0_init_19 : decode cX0_init 19 = .ok (.iconst 0, 1) := by decide +kernel
theorem dX0_init_20 : decode cX0_init 20 = .ok (.putfield 19, 3) := by decide +kernel
theorem dX0_init_23 : decode cX0_init 23 = .ok (.return_, 1) := by decide +kernel
theorem dX0_forgetAll_0 : decode cX0_forgetAll 0 = .ok (.aload_n 0, 1) := by decide +kernel
theorem dX0_forgetAll_1 : decode cX0_forgetAll 1 = .ok (.iconst 0, 1) := by decide +kernel
theorem dX0_forgetAll_2 : decode cX0_forgetAll 2 = .ok (.putfield 19, 3) := by decide +kernel
theorem dX0_forgetAll_5 : decode cX0_forgetAll 5 = .ok (.return_, 1) := by decide +kernel
theorem dX0_keep_0 : decode cX0_keep 0 = .ok (.aload_n 1, 1) := by decide +kernel
theorem dX0_keep_1 : decode cX0_keep 1 = .ok (.getfield 22, 3) := by decide +kernel
theorem dX0_keep_4 : decode cX0_keep 4 = .ok (.iconst 0, 1) := by decide +kernel
theorem dX0_keep_5 : decode cX0_keep 5 = .ok (.aload_n 0, 1) := by decide +kernel
theorem dX0_keep_6 : decode cX0_keep 6 = .ok (.getfield 11, 3) := by decide +kernel
theorem dX0_keep_9 : decode cX0_keep 9 = .ok (.aload_n 0, 1) := by decide +kernel
theorem dX0_keep_10 : decode cX0_keep 10 = .ok (.getfield 15, 3) := by decide +kernel
theorem dX0_keep_13 : decode cX0_keep 13 = .ok (.bipush 36, 2) := by decide +kernel
theorem dX0_keep_15 : decode cX0_keep 15 = .ok (.imul, 1) := by decide +kernel
theorem dX0_keep_16 : decode cX0_keep 16 = .ok (.bipush 36, 2) := by decide +kernel
theorem dX0_keep_18 : decode cX0_keep 18 = .ok (.invokestatic 25, 3) := by decide +kernel
theorem dX0_keep_21 : decode cX0_keep 21 = .ok (.aload_n 0, 1) := by decide +kernel
theorem dX0_keep_22 : decode cX0_keep 22 = .ok (.aload_n 0, 1) := by decide +kernel
theorem dX0_keep_23 : decode cX0_keep 23 = .ok (.getfield 15, 3) := by decide +kernel
theorem dX0_keep_26 : decode cX0_keep 26 = .ok (.bipush 23, 2) := by decide +kernel
theorem dX0_keep_28 : decode cX0_keep 28 = .ok (.if_icmp .ne 7, 3) := by decide +kernel
theorem dX0_keep_31 : decode cX0_keep 31 = .ok (.iconst 0, 1) := by decide +kernel
theorem dX0_keep_32 : decode cX0_keep 32 = .ok (.goto 9, 3) := by decide +kernel
theorem dX0_keep_35 : decode cX0_keep 35 = .ok (.aload_n 0, 1) := by decide +kernel
theorem dX0_keep_36 : decode cX0_keep 36 = .ok (.getfield 15, 3) := by decide +kernel
theorem dX0_keep_39 : decode cX0_keep 39 = .ok (.iconst 1, 1) := by decide +kernel
theorem dX0_keep_40 : decode cX0_keep 40 = .ok (.iadd, 1) := by decide +kernel
theorem dX0_keep_41 : decode cX0_keep 41 = .ok (.putfield 15, 3) := by decide +kernel
theorem dX0_keep_44 : decode cX0_keep 44 = .ok (.aload_n 0, 1) := by decide +kernel
theorem dX0_keep_45 : decode cX0_keep 45 = .ok (.aload_n 0, 1) := by decide +kernel
theorem dX0_keep_46 : decode cX0_keep 46 = .ok (.getfield 19, 3) := by decide +kernel
theorem dX0_keep_49 : decode cX0_keep 49 = .ok (.iconst 1, 1) := by decide +kernel
theorem dX0_keep_50 : decode cX0_keep 50 = .ok (.iadd, 1) := by decide +kernel
theorem dX0_keep_51 : decode cX0_keep 51 = .ok (.bipush 24, 2) := by decide +kernel
theorem dX0_keep_53 : decode cX0_keep 53 = .ok (.invokestatic 31, 3) := by decide +kernel
theorem dX0_keep_56 : decode cX0_keep 56 = .ok (.putfield 19, 3) := by decide +kernel
theorem dX0_keep_59 : decode cX0_keep 59 = .ok (.return_, 1) := by decide +kernel
theorem dX0_takeBack_0 : decode cX0_takeBack 0 = .ok (.aload_n 0, 1) := by decide +kernel
theorem dX0_takeBack_1 : decode cX0_takeBack 1 = .ok (.aload_n 0, 1) := by decide +kernel
theorem dX0_takeBack_2 : decode cX0_takeBack 2 = .ok (.getfield 15, 3) := by decide +kernel
theorem dX0_takeBack_5 : decode cX0_takeBack 5 = .ok (.ifCond .ne 8, 3) := by decide +kernel
theorem dX0_takeBack_8 : decode cX0_takeBack 8 = .ok (.bipush 23, 2) := by decide +kernel
theorem dX0_takeBack_10 : decode cX0_takeBack 10 = .ok (.goto 9, 3) := by decide +kernel
theorem dX0_takeBack_13 : decode cX0_takeBack 13 = .ok (.aload_n 0, 1) := by decide +kernel
theorem dX0_takeBack_14 : decode cX0_takeBack 14 = .ok (.getfield 15, 3) := by decide +kernel
theorem dX0_takeBack_17 : decode cX0_takeBack 17 = .ok (.iconst 1, 1) := by decide +kernel
theorem dX0_takeBack_18 : decode cX0_takeBack 18 = .ok (.isub, 1) := by decide +kernel
theorem dX0_takeBack_19 : decode cX0_takeBack 19 = .ok (.putfield 15, 3) := by decide +kernel
theorem dX0_takeBack_22 : decode cX0_takeBack 22 = .ok (.aload_n 0, 1) := by decide +kernel
theorem dX0_takeBack_23 : decode cX0_takeBack 23 = .ok (.dup, 1) := by decide +kernel
theorem dX0_takeBack_24 : decode cX0_takeBack 24 = .ok (.getfield 19, 3) := by decide +kernel
theorem dX0_takeBack_27 : decode cX0_takeBack 27 = .ok (.iconst 1, 1) := by decide +kernel
theorem dX0_takeBack_28 : decode cX0_takeBack 28 = .ok (.isub, 1) := by decide +kernel
theorem dX0_takeBack_29 : decode cX0_takeBack 29 = .ok (.putfield 19, 3) := by decide +kernel
theorem dX0_takeBack_32 : decode cX0_takeBack 32 = .ok (.aload_n 0, 1) := by decide +kernel
theorem dX0_takeBack_33 : decode cX0_takeBack 33 = .ok (.getfield 11, 3) := by decide +kernel
theorem dX0_takeBack_36 : decode cX0_takeBack 36 = .ok (.aload_n 0, 1) := by decide +kernel
theorem dX0_takeBack_37 : decode cX0_takeBack 37 = .ok (.getfield 15, 3) := by decide +kernel
theorem dX0_takeBack_40 : decode cX0_takeBack 40 = .ok (.bipush 36, 2) := by decide +kernel
theorem dX0_takeBack_42 : decode cX0_takeBack 42 = .ok (.imul, 1) := by decide +kernel
theorem dX0_takeBack_43 : decode cX0_takeBack 43 = .ok (.aload_n 1, 1) := by decide +kernel
theorem dX0_takeBack_44 : decode cX0_takeBack 44 = .ok (.getfield 22, 3) := by decide +kernel
theorem dX0_takeBack_47 : decode cX0_takeBack 47 = .ok (.iconst 0, 1) := by decide +kernel
theorem dX0_takeBack_48 : decode cX0_takeBack 48 = .ok (.bipush 36, 2) := by decide +kernel
theorem dX0_takeBack_50 : decode cX0_takeBack 50 = .ok (.invokestatic 25, 3) := by decide +kernel
theorem dX0_takeBack_53 : decode cX0_takeBack 53 = .ok (.return_, 1) := by decide +kernel
theorem dX1_init_0 : decode cX1_init 0 = .ok (.aload_n 0, 1) := by decide +kernel
theorem dX1_init_1 : decode cX1_init 1 = .ok (.invokespecial 1, 3) := by decide +kernel
theorem dX1_init_4 : decode cX1_init 4 = .ok (.aload_n 0, 1) := by decide +kernel
theorem dX1_init_5 : decode cX1_init 5 = .ok (.bipush 16, 2) := by decide +kernel
theorem dX1_init_7 : decode cX1_init 7 = .ok (.newarray .int, 2) := by decide +kernel
theorem dX1_init_9 : decode cX1_init 9 = .ok (.putfield 9, 3) := by decide +kernel
theorem dX1_init_12 : decode cX1_init 12 = .ok (.aload_n 0, 1) := by decide +kernel
theorem dX1_init_13 : decode cX1_init 13 = .ok (.iconst 0, 1) := by decide +kernel
theorem dX1_init_14 : decode cX1_init 14 = .ok (.putfield 13, 3) := by decide +kernel
theorem dX1_init_17 : decode cX1_init 17 = .ok (.return_, 1) := by decide +kernel
theorem dX1_answer_0 : decode cX1_answer 0 = .ok (.aload_n 0, 1) := by decide +kernel
theorem dX1_answer_1 : decode cX1_answer 1 = .ok (.iconst 0, 1) := by decide +kernel
theorem dX1_answer_2 : decode cX1_answer 2 = .ok (.putfield 13, 3) := by decide +kernel
theorem dX1_answer_5 : decode cX1_answer 5 = .ok (.aload_n 1, 1) := by decide +kernel
theorem dX1_answer_6 : decode cX1_answer 6 = .ok (.getfield 17, 3) := by decide +kernel
theorem dX1_answer_9 : decode cX1_answer 9 = .ok (.iload_n 2, 1) := by decide +kernel
theorem dX1_answer_10 : decode cX1_answer 10 = .ok (.iaload, 1) := by decide +kernel
theorem dX1_answer_11 : decode cX1_answer 11 = .ok (.istore 4, 2) := by decide +kernel
theorem dX1_answer_13 : decode cX1_answer 13 = .ok (.aload_n 0, 1) := by decide +kernel
theorem dX1_answer_14 : decode cX1_answer 14 = .ok (.aload_n 1, 1) := by decide +kernel
theorem dX1_answer_15 : decode cX1_answer 15 = .ok (.iload_n 2, 1) := by decide +kernel
theorem dX1_answer_16 : decode cX1_answer 16 = .ok (.iload_n 3, 1) := by decide +kernel
theorem dX1_answer_17 : decode cX1_answer 17 = .ok (.ifCond .ne 11, 3) := by decide +kernel
theorem dX1_answer_20 : decode cX1_answer 20 = .ok (.iload 4, 2) := by decide +kernel
theorem dX1_answer_22 : decode cX1_answer 22 = .ok (.invokestatic 22, 3) := by decide +kernel
theorem dX1_answer_25 : decode cX1_answer 25 = .ok (.goto 8, 3) := by decide +kernel
theorem dX1_answer_28 : decode cX1_answer 28 = .ok (.iload 4, 2) := by decide +kernel
theorem dX1_answer_30 : decode cX1_answer 30 = .ok (.invokestatic 28, 3) := by decide +kernel
theorem dX1_answer_33 : decode cX1_answer 33 = .ok (.iconst 0, 1) := by decide +kernel
theorem dX1_answer_34 : decode cX1_answer 34 = .ok (.invokevirtual 31, 3) := by decide +kernel
theorem dX1_answer_37 : decode cX1_answer 37 = .ok (.ireturn, 1) := by decide +kernel
theorem dX1_give_0 : decode cX1_give 0 = .ok (.iload 4, 2) := by decide +kernel
theorem dX1_give_2 : decode cX1_give 2 = .ok (.bipush 20, 2) := by decide +kernel
theorem dX1_give_4 : decode cX1_give 4 = .ok (.if_icmp .le 5, 3) := by decide +kernel
theorem dX1_give_7 : decode cX1_give 7 = .ok (.iconst 0, 1) := by decide +kernel
theorem dX1_give_8 : decode cX1_give 8 = .ok (.ireturn, 1) := by decide +kernel
theorem dX1_give_9 : decode cX1_give 9 = .ok (.aload_n 0, 1) := by decide +kernel
theorem dX1_give_10 : decode cX1_give 10 = .ok (.iload_n 3, 1) := by decide +kernel
theorem dX1_give_11 : decode cX1_give 11 = .ok (.invokevirtual 35, 3) := by decide +kernel
theorem dX1_give_14 : decode cX1_give 14 = .ok (.aload_n 1, 1) := by decide +kernel
theorem dX1_give_15 : decode cX1_give 15 = .ok (.getfield 17, 3) := by decide +kernel
theorem dX1_give_18 : decode cX1_give 18 = .ok (.iload_n 2, 1) := by decide +kernel
theorem dX1_give_19 : decode cX1_give 19 = .ok (.iaload, 1) := by decide +kernel
theorem dX1_give_20 : decode cX1_give 20 = .ok (.istore 5, 2) := by decide +kernel
theorem dX1_give_22 : decode cX1_give 22 = .ok (.iload 4, 2) := by decide +kernel
theorem dX1_give_24 : decode cX1_give 24 = .ok (.iconst 1, 1) := by decide +kernel
theorem dX1_give_25 : decode cX1_give 25 = .ok (.iadd, 1) := by decide +kernel
theorem dX1_give_26 : decode cX1_give 26 = .ok (.istore 6, 2) := by decide +kernel
theorem dX1_give_28 : decode cX1_give 28 = .ok (.iload_n 3, 1) := by decide +kernel
theorem dX1_give_29 : decode cX1_give 29 = .ok (.tableswitch 219 10 24 #[75, 82, 107, 119, 133, 219, 219, 219, 219, 219, 146, 148, 166, 181, 206], 75) := by decide +kernel
theorem dX1_give_104 : decode cX1_give 104 = .ok (.aload_n 1, 1) := by decide +kernel
theorem dX1_give_105 : decode cX1_give 105 = .ok (.getfield 39, 3) := by decide +kernel
theorem dX1_give_108 : decode cX1_give 108 = .ok (.iload_n 2, 1) := by decide +kernel
theorem dX1_give_109 : decode cX1_give 109 = .ok (.iaload, 1) := by decide +kernel
theorem dX1_give_110 : decode cX1_give 110 = .ok (.ireturn, 1) := by decide +kernel
theorem dX1_give_111 : decode cX1_give 111 = .ok (.aload_n 0, 1) := by decide +kernel
theorem dX1_give_112 : decode cX1_give 112 = .ok (.aload_n 1, 1) := by decide +kernel
theorem dX1_give_113 : decode cX1_give 113 = .ok (.iload_n 2, 1) := by decide +kernel
theorem dX1_give_114 : decode cX1_give 114 = .ok (.bipush 10, 2) := by decide +kernel
theorem dX1_give_116 : decode cX1_give 116 = .ok (.iload 6, 2) := by decide +kernel
theorem dX1_give_118 : decode cX1_give 118 = .ok (.invokevirtual 31, 3) := by decide +kernel
theorem dX1_give_121 : decode cX1_give 121 = .ok (.aload_n 0, 1) := by decide +kernel
theorem dX1_give_122 : decode cX1_give 122 = .ok (.aload_n 1, 1) := by decide +kernel
theorem dX1_give_123 : decode cX1_give 123 = .ok (.iload_n 2, 1) := by decide +kernel
theorem dX1_give_124 : decode cX1_give 124 = .ok (.iload 5, 2) := by decide +kernel
theorem dX1_give_126 : decode cX1_give 126 = .ok (.invokestatic 28, 3) := by decide +kernel
theorem dX1_give_129 : decode cX1_give 129 = .ok (.iload 6, 2) := by decide +kernel
theorem dX1_give_131 : decode cX1_give 131 = .ok (.invokevirtual 31, 3) := by decide +kernel
theorem dX1_give_134 : decode cX1_give 134 = .ok (.iadd, 1) := by decide +kernel
theorem dX1_give_135 : decode cX1_give 135 = .ok (.ireturn, 1) := by decide +kernel
theorem dX1_give_136 : decode cX1_give 136 = .ok (.aload_n 0, 1) := by decide +kernel
theorem dX1_give_137 : decode cX1_give 137 = .ok (.aload_n 1, 1) := by decide +kernel
theorem dX1_give_138 : decode cX1_give 138 = .ok (.iload_n 2, 1) := by decide +kernel
theorem dX1_give_139 : decode cX1_give 139 = .ok (.bipush 11, 2) := by decide +kernel
theorem dX1_give_141 : decode cX1_give 141 = .ok (.iload 6, 2) := by decide +kernel
theorem dX1_give_143 : decode cX1_give 143 = .ok (.invokevirtual 31, 3) := by decide +kernel
theorem dX1_give_146 : decode cX1_give 146 = .ok (.ineg, 1) := by decide +kernel
theorem dX1_give_147 : decode cX1_give 147 = .ok (.ireturn, 1) := by decide +kernel
theorem dX1_give_148 : decode cX1_give 148 = .ok (.aload_n 0, 1) := by decide +kernel
theorem dX1_give_149 : decode cX1_give 149 = .ok (.aload_n 1, 1) := by decide +kernel
theorem dX1_give_150 : decode cX1_give 150 = .ok (.iload_n 2, 1) := by decide +kernel
theorem dX1_give_151 : decode cX1_give 151 = .ok (.bipush 10, 2) := by decide +kernel
theorem dX1_give_153 : decode cX1_give 153 = .ok (.iload 6, 2) := by decide +kernel
theorem dX1_give_155 : decode cX1_give 155 = .ok (.invokevirtual 31, 3) := by decide +kernel
theorem dX1_give_158 : decode cX1_give 158 = .ok (.bipush 100, 2) := by decide +kernel
theorem dX1_give_160 : decode cX1_give 160 = .ok (.isub, 1) := by decide +kernel
theorem dX1_give_161 : decode cX1_give 161 = .ok (.ireturn, 1) := by decide +kernel
theorem dX1_give_162 : decode cX1_give 162 = .ok (.aload_n 0, 1) := by decide +kernel
theorem dX1_give_163 : decode cX1_give 163 = .ok (.aload_n 1, 1) := by decide +kernel
theorem dX1_give_164 : decode cX1_give 164 = .ok (.iload_n 2, 1) := by decide +kernel
theorem dX1_give_165 : decode cX1_give 165 = .ok (.bipush 13, 2) := by decide +kernel
theorem dX1_give_167 : decode cX1_give 167 = .ok (.iload 6, 2) := by decide +kernel
theorem dX1_give_169 : decode cX1_give 169 = .ok (.invokevirtual 31, 3) := by decide +kernel
theorem dX1_give_172 : decode cX1_give 172 = .ok (.iconst 2, 1) := by decide +kernel
theorem dX1_give_173 : decode cX1_give 173 = .ok (.imul, 1) := by decide +kernel
theorem dX1_give_174 : decode cX1_give 174 = .ok (.ireturn, 1) := by decide +kernel
theorem dX1_give_175 : decode cX1_give 175 = .ok (.iload_n 2, 1) := by decide +kernel
theorem dX1_give_176 : decode cX1_give 176 = .ok (.ireturn, 1) := by decide +kernel
theorem dX1_give_177 : decode cX1_give 177 = .ok (.aload_n 0, 1) := by decide +kernel
theorem dX1_give_178 : decode cX1_give 178 = .ok (.aload_n 1, 1) := by decide +kernel
theorem dX1_give_179 : decode cX1_give 179 = .ok (.iload_n 2, 1) := by decide +kernel
theorem dX1_give_180 : decode cX1_give 180 = .ok (.bipush 20, 2) := by decide +kernel
theorem dX1_give_182 : decode cX1_give 182 = .ok (.iload 6, 2) := by decide +kernel
theorem dX1_give_184 : decode cX1_give 184 = .ok (.invokevirtual 31, 3) := by decide +kernel
theorem dX1_give_187 : decode cX1_give 187 = .ok (.aload_n 1, 1) := by decide +kernel
theorem dX1_give_188 : decode cX1_give 188 = .ok (.getfield 42, 3) := by decide +kernel
theorem dX1_give_191 : decode cX1_give 191 = .ok (.iload_n 2, 1) := by decide +kernel
theorem dX1_give_192 : decode cX1_give 192 = .ok (.iaload, 1) := by decide +kernel
theorem dX1_give_193 : decode cX1_give 193 = .ok (.iadd, 1) := by decide +kernel
theorem dX1_give_194 : decode cX1_give 194 = .ok (.ireturn, 1) := by decide +kernel
theorem dX1_give_195 : decode cX1_give 195 = .ok (.aload_n 0, 1) := by decide +kernel
theorem dX1_give_196 : decode cX1_give 196 = .ok (.aload_n 1, 1) := by decide +kernel
theorem dX1_give_197 : decode cX1_give 197 = .ok (.iload_n 2, 1) := by decide +kernel
theorem dX1_give_198 : decode cX1_give 198 = .ok (.bipush 21, 2) := by decide +kernel
theorem dX1_give_200 : decode cX1_give 200 = .ok (.iload 6, 2) := by decide +kernel
theorem dX1_give_202 : decode cX1_give 202 = .ok (.invokevirtual 31, 3) := by decide +kernel
theorem dX1_give_205 : decode cX1_give 205 = .ok (.sipush 1000, 3) := by decide +kernel
theorem dX1_give_208 : decode cX1_give 208 = .ok (.isub, 1) := by decide +kernel
theorem dX1_give_209 : decode cX1_give 209 = .ok (.ireturn, 1) := by decide +kernel
theorem dX1_give_210 : decode cX1_give 210 = .ok (.aload_n 0, 1) := by decide +kernel
theorem dX1_give_211 : decode cX1_give 211 = .ok (.aload_n 1, 1) := by decide +kernel
theorem dX1_give_212 : decode cX1_give 212 = .ok (.iload_n 2, 1) := by decide +kernel
theorem dX1_give_213 : decode cX1_give 213 = .ok (.bipush 20, 2) := by decide +kernel
theorem dX1_give_215 : decode cX1_give 215 = .ok (.iload 6, 2) := by decide +kernel
theorem dX1_give_217 : decode cX1_give 217 = .ok (.invokevirtual 31, 3) := by decide +kernel
theorem dX1_give_220 : decode cX1_give 220 = .ok (.aload_n 0, 1) := by decide +kernel
theorem dX1_give_221 : decode cX1_give 221 = .ok (.aload_n 1, 1) := by decide +kernel
theorem dX1_give_222 : decode cX1_give 222 = .ok (.iload_n 2, 1) := by decide +kernel
theorem dX1_give_223 : decode cX1_give 223 = .ok (.iload 5, 2) := by decide +kernel
theorem dX1_give_225 : decode cX1_give 225 = .ok (.invokestatic 22, 3) := by decide +kernel
theorem dX1_give_228 : decode cX1_give 228 = .ok (.iload 6, 2) := by decide +kernel
theorem dX1_give_230 : decode cX1_give 230 = .ok (.invokevirtual 31, 3) := by decide +kernel
theorem dX1_give_233 : decode cX1_give 233 = .ok (.isub, 1) := by decide +kernel
theorem dX1_give_234 : decode cX1_give 234 = .ok (.ireturn, 1) := by decide +kernel
theorem dX1_give_235 : decode cX1_give 235 = .ok (.aload_n 0, 1) := by decide +kernel
theorem dX1_give_236 : decode cX1_give 236 = .ok (.aload_n 1, 1) := by decide +kernel
theorem dX1_give_237 : decode cX1_give 237 = .ok (.iload_n 2, 1) := by decide +kernel
theorem dX1_give_238 : decode cX1_give 238 = .ok (.bipush 22, 2) := by decide +kernel
theorem dX1_give_240 : decode cX1_give 240 = .ok (.iload 6, 2) := by decide +kernel
theorem dX1_give_242 : decode cX1_give 242 = .ok (.invokevirtual 31, 3) := by decide +kernel
theorem dX1_give_245 : decode cX1_give 245 = .ok (.iconst 2, 1) := by decide +kernel
theorem dX1_give_246 : decode cX1_give 246 = .ok (.imul, 1) := by decide +kernel
theorem dX1_give_247 : decode cX1_give 247 = .ok (.ireturn, 1) := by decide +kernel
theorem dX1_give_248 : decode cX1_give 248 = .ok (.iconst 0, 1) := by decide +kernel
theorem dX1_give_249 : decode cX1_give 249 = .ok (.ireturn, 1) := by decide +kernel
theorem dX1_leave_0 : decode cX1_leave 0 = .ok (.aload_n 0, 1) := by decide +kernel
theorem dX1_leave_1 : decode cX1_leave 1 = .ok (.getfield 13, 3) := by decide +kernel
theorem dX1_leave_4 : decode cX1_leave 4 = .ok (.bipush 16, 2) := by decide +kernel
theorem dX1_leave_6 : decode cX1_leave 6 = .ok (.if_icmp .ge 23, 3) := by decide +kernel
theorem dX1_leave_9 : decode cX1_leave 9 = .ok (.aload_n 0, 1) := by decide +kernel
theorem dX1_leave_10 : decode cX1_leave 10 = .ok (.getfield 9, 3) := by decide +kernel
theorem dX1_leave_13 : decode cX1_leave 13 = .ok (.aload_n 0, 1) := by decide +kernel
theorem dX1_leave_14 : decode cX1_leave 14 = .ok (.getfield 13, 3) := by decide +kernel
theorem dX1_leave_17 : decode cX1_leave 17 = .ok (.iload_n 1, 1) := by decide +kernel
theorem dX1_leave_18 : decode cX1_leave 18 = .ok (.iastore, 1) := by decide +kernel
theorem dX1_leave_19 : decode cX1_leave 19 = .ok (.aload_n 0, 1) := by decide +kernel
theorem dX1_leave_20 : decode cX1_leave 20 = .ok (.dup, 1) := by decide +kernel
theorem dX1_leave_21 : decode cX1_leave 21 = .ok (.getfield 13, 3) := by decide +kernel
theorem dX1_leave_24 : decode cX1_leave 24 = .ok (.iconst 1, 1) := by decide +kernel
theorem dX1_leave_25 : decode cX1_leave 25 = .ok (.iadd, 1) := by decide +kernel
theorem dX1_leave_26 : decode cX1_leave 26 = .ok (.putfield 13, 3) := by decide +kernel
theorem dX1_leave_29 : decode cX1_leave 29 = .ok (.return_, 1) := by decide +kernel
theorem dX2_init_0 : decode cX2_init 0 = .ok (.aload_n 0, 1) := by decide +kernel
theorem dX2_init_1 : decode cX2_init 1 = .ok (.invokespecial 3, 3) := by decide +kernel
theorem dX2_init_4 : decode cX2_init 4 = .ok (.aload_n 0, 1) := by decide +kernel
theorem dX2_init_5 : decode cX2_init 5 = .ok (.bipush 9, 2) := by decide +kernel
theorem dX2_init_7 : decode cX2_init 7 = .ok (.newarray .int, 2) := by decide +kernel
theorem dX2_init_9 : decode cX2_init 9 = .ok (.putfield 9, 3) := by decide +kernel
theorem dX2_init_12 : decode cX2_init 12 = .ok (.aload_n 0, 1) := by decide +kernel
theorem dX2_init_13 : decode cX2_init 13 = .ok (.bipush 10, 2) := by decide +kernel
theorem dX2_init_15 : decode cX2_init 15 = .ok (.newarray .int, 2) := by decide +kernel
theorem dX2_init_17 : decode cX2_init 17 = .ok (.putfield 15, 3) := by decide +kernel
theorem dX2_init_20 : decode cX2_init 20 = .ok (.aload_n 0, 1) := by decide +kernel
theorem dX2_init_21 : decode cX2_init 21 = .ok (.iconst 3, 1) := by decide +kernel
theorem dX2_init_22 : decode cX2_init 22 = .ok (.newarray .int, 2) := by decide +kernel
theorem dX2_init_24 : decode cX2_init 24 = .ok (.putfield 18, 3) := by decide +kernel
theorem dX2_init_27 : decode cX2_init 27 = .ok (.aload_n 0, 1) := by decide +kernel
theorem dX2_init_28 : decode cX2_init 28 = .ok (.bipush 9, 2) := by decide +kernel
theorem dX2_init_30 : decode cX2_init 30 = .ok (.newarray .int, 2) := by decide +kernel
theorem dX2_init_32 : decode cX2_init 32 = .ok (.putfield 21, 3) := by decide +kernel
theorem dX2_init_35 : decode cX2_init 35 = .ok (.aload_n 0, 1) := by decide +kernel
theorem dX2_init_36 : decode cX2_init 36 = .ok (.iconst 0, 1) := by decide +kernel
theorem dX2_init_37 : decode cX2_init 37 = .ok (.putfield 24, 3) := by decide +kernel
theorem dX2_init_40 : decode cX2_init 40 = .ok (.aload_n 0, 1) := by decide +kernel
theorem dX2_init_41 : decode cX2_init 41 = .ok (.bipush 9, 2) := by decide +kernel
theorem dX2_init_43 : decode cX2_init 43 = .ok (.newarray .int, 2) := by decide +kernel
theorem dX2_init_45 : decode cX2_init 45 = .ok (.putfield 28, 3) := by decide +kernel
theorem dX2_init_48 : decode cX2_init 48 = .ok (.aload_n 0, 1) := by decide +kernel
theorem dX2_init_49 : decode cX2_init 49 = .ok (.iconst 0, 1) := by decide +kernel
theorem dX2_init_50 : decode cX2_init 50 = .ok (.putfield 31, 3) := by decide +kernel
theorem dX2_init_53 : decode cX2_init 53 = .ok (.return_, 1) := by decide +kernel
theorem dX2_search_0 : decode cX2_search 0 = .ok (.aload_n 0, 1) := by decide +kernel
theorem dX2_search_1 : decode cX2_search 1 = .ok (.aload_n 1, 1) := by decide +kernel
theorem dX2_search_2 : decode cX2_search 2 = .ok (.getfield 34, 3) := by decide +kernel
theorem dX2_search_5 : decode cX2_search 5 = .ok (.putfield 24, 3) := by decide +kernel
theorem dX2_search_8 : decode cX2_search 8 = .ok (.aload_n 0, 1) := by decide +kernel
theorem dX2_search_9 : decode cX2_search 9 = .ok (.iconst (-1), 1) := by decide +kernel
theorem dX2_search_10 : decode cX2_search 10 = .ok (.putfield 31, 3) := by decide +kernel
theorem dX2_search_13 : decode cX2_search 13 = .ok (.aload_n 0, 1) := by decide +kernel
theorem dX2_search_14 : decode cX2_search 14 = .ok (.getfield 15, 3) := by decide +kernel
theorem dX2_search_17 : decode cX2_search 17 = .ok (.aload_n 0, 1) := by decide +kernel
theorem dX2_search_18 : decode cX2_search 18 = .ok (.getfield 24, 3) := by decide +kernel
theorem dX2_search_21 : decode cX2_search 21 = .ok (.iconst 0, 1) := by decide +kernel
theorem dX2_search_22 : decode cX2_search 22 = .ok (.iastore, 1) := by decide +kernel
theorem dX2_search_23 : decode cX2_search 23 = .ok (.aload_n 0, 1) := by decide +kernel
theorem dX2_search_24 : decode cX2_search 24 = .ok (.getfield 24, 3) := by decide +kernel
theorem dX2_search_27 : decode cX2_search 27 = .ok (.iconst 1, 1) := by decide +kernel
theorem dX2_search_28 : decode cX2_search 28 = .ok (.isub, 1) := by decide +kernel
theorem dX2_search_29 : decode cX2_search 29 = .ok (.istore_n 2, 1) := by decide +kernel
theorem dX2_search_30 : decode cX2_search 30 = .ok (.iload_n 2, 1) := by decide +kernel
theorem dX2_search_31 : decode cX2_search 31 = .ok (.ifCond .lt 41, 3) := by decide +kernel
theorem dX2_search_34 : decode cX2_search 34 = .ok (.aload_n 0, 1) := by decide +kernel
theorem dX2_search_35 : decode cX2_search 35 = .ok (.getfield 9, 3) := by decide +kernel
theorem dX2_search_38 : decode cX2_search 38 = .ok (.iload_n 2, 1) := by decide +kernel
theorem dX2_search_39 : decode cX2_search 39 = .ok (.aload_n 1, 1) := by decide +kernel
theorem dX2_search_40 : decode cX2_search 40 = .ok (.iload_n 2, 1) := by decide +kernel
theorem dX2_search_41 : decode cX2_search 41 = .ok (.invokevirtual 37, 3) := by decide +kernel
theorem dX2_search_44 : decode cX2_search 44 = .ok (.iastore, 1) := by decide +kernel
theorem dX2_search_45 : decode cX2_search 45 = .ok (.aload_n 0, 1) := by decide +kernel
theorem dX2_search_46 : decode cX2_search 46 = .ok (.getfield 15, 3) := by decide +kernel
theorem dX2_search_49 : decode cX2_search 49 = .ok (.iload_n 2, 1) := by decide +kernel
theorem dX2_search_50 : decode cX2_search 50 = .ok (.aload_n 0, 1) := by decide +kernel
theorem dX2_search_51 : decode cX2_search 51 = .ok (.getfield 15, 3) := by decide +kernel
theorem dX2_search_54 : decode cX2_search 54 = .ok (.iload_n 2, 1) := by decide +kernel
theorem dX2_search_55 : decode cX2_search 55 = .ok (.iconst 1, 1) := by decide +kernel
theorem dX2_search_56 : decode cX2_search 56 = .ok (.iadd, 1) := by decide +kernel
theorem dX2_search_57 : decode cX2_search 57 = .ok (.iaload, 1) := by decide +kernel
theorem dX2_search_58 : decode cX2_search 58 = .ok (.aload_n 0, 1) := by decide +kernel
theorem dX2_search_59 : decode cX2_search 59 = .ok (.getfield 9, 3) := by decide +kernel
theorem dX2_search_62 : decode cX2_search 62 = .ok (.iload_n 2, 1) := by decide +kernel
theorem dX2_search_63 : decode cX2_search 63 = .ok (.iaload, 1) := by decide +kernel
theorem dX2_search_64 : decode cX2_search 64 = .ok (.iadd, 1) := by decide +kernel
theorem dX2_search_65 : decode cX2_search 65 = .ok (.iastore, 1) := by decide +kernel
theorem dX2_search_66 : decode cX2_search 66 = .ok (.iinc 2 (-1), 3) := by decide +kernel
theorem dX2_search_69 : decode cX2_search 69 = .ok (.goto (-39), 3) := by decide +kernel
theorem dX2_search_72 : decode cX2_search 72 = .ok (.iconst 0, 1) := by decide +kernel
theorem dX2_search_73 : decode cX2_search 73 = .ok (.istore_n 2, 1) := by decide +kernel
theorem dX2_search_74 : decode cX2_search 74 = .ok (.iload_n 2, 1) := by decide +kernel
theorem dX2_search_75 : decode cX2_search 75 = .ok (.iconst 3, 1) := by decide +kernel
theorem dX2_search_76 : decode cX2_search 76 = .ok (.if_icmp .ge 16, 3) := by decide +kernel
theorem dX2_search_79 : decode cX2_search 79 = .ok (.aload_n 0, 1) := by decide +kernel
theorem dX2_search_80 : decode cX2_search 80 = .ok (.getfield 18, 3) := by decide +kernel
theorem dX2_search_83 : decode cX2_search 83 = .ok (.iload_n 2, 1) := by decide +kernel
theorem dX2_search_84 : decode cX2_search 84 = .ok (.iconst 0, 1) := by decide +kernel
theorem dX2_search_85 : decode cX2_search 85 = .ok (.iastore, 1) := by decide +kernel
theorem dX2_search_86 : decode cX2_search 86 = .ok (.iinc 2 1, 3) := by decide +kernel
theorem dX2_search_89 : decode cX2_search 89 = .ok (.goto (-15), 3) := by decide +kernel
theorem dX2_search_92 : decode cX2_search 92 = .ok (.aload_n 0, 1) := by decide +kernel
theorem dX2_search_93 : decode cX2_search 93 = .ok (.iconst 0, 1) := by decide +kernel
theorem dX2_search_94 : decode cX2_search 94 = .ok (.iconst 0, 1) := by decide +kernel
theorem dX2_search_95 : decode cX2_search 95 = .ok (.invokevirtual 41, 3) := by decide +kernel
theorem dX2_search_98 : decode cX2_search 98 = .ok (.return_, 1) := by decide +kernel
theorem dX2_layFrom_0 : decode cX2_layFrom 0 = .ok (.aload_n 0, 1) := by decide +kernel
theorem dX2_layFrom_1 : decode cX2_layFrom 1 = .ok (.invokevirtual 45, 3) := by decide +kernel
theorem dX2_layFrom_4 : decode cX2_layFrom 4 = .ok (.aload_n 0, 1) := by decide +kernel
theorem dX2_layFrom_5 : decode cX2_layFrom 5 = .ok (.getfield 15, 3) := by decide +kernel
theorem dX2_layFrom_8 : decode cX2_layFrom 8 = .ok (.iload_n 1, 1) := by decide +kernel
theorem dX2_layFrom_9 : decode cX2_layFrom 9 = .ok (.iaload, 1) := by decide +kernel
theorem dX2_layFrom_10 : decode cX2_layFrom 10 = .ok (.if_icmp .le 4, 3) := by decide +kernel
theorem dX2_layFrom_13 : decode cX2_layFrom 13 = .ok (.return_, 1) := by decide +kernel
theorem dX2_layFrom_14 : decode cX2_layFrom 14 = .ok (.iload_n 1, 1) := by decide +kernel
theorem dX2_layFrom_15 : decode cX2_layFrom 15 = .ok (.aload_n 0, 1) := by decide +kernel
theorem dX2_layFrom_16 : decode cX2_layFrom 16 = .ok (.getfield 24, 3) := by decide +kernel
theorem dX2_layFrom_19 : decode cX2_layFrom 19 = .ok (.if_icmp .lt 49, 3) := by decide +kernel
theorem dX2_layFrom_22 : decode cX2_layFrom 22 = .ok (.aload_n 0, 1) := by decide +kernel
theorem dX2_layFrom_23 : decode cX2_layFrom 23 = .ok (.aload_n 0, 1) := by decide +kernel
theorem dX2_layFrom_24 : decode cX2_layFrom 24 = .ok (.getfield 18, 3) := by decide +kernel
theorem dX2_layFrom_27 : decode cX2_layFrom 27 = .ok (.iconst 0, 1) := by decide +kernel
theorem dX2_layFrom_28 : decode cX2_layFrom 28 = .ok (.iaload, 1) := by decide +kernel
theorem dX2_layFrom_29 : decode cX2_layFrom 29 = .ok (.aload_n 0, 1) := by decide +kernel
theorem dX2_layFrom_30 : decode cX2_layFrom 30 = .ok (.getfield 18, 3) := by decide +kernel
theorem dX2_layFrom_33 : decode cX2_layFrom 33 = .ok (.iconst 1, 1) := by decide +kernel
theorem dX2_layFrom_34 : decode cX2_layFrom 34 = .ok (.iaload, 1) := by decide +kernel
theorem dX2_layFrom_35 : decode cX2_layFrom 35 = .ok (.aload_n 0, 1) := by decide +kernel
theorem dX2_layFrom_36 : decode cX2_layFrom 36 = .ok (.getfield 18, 3) := by decide +kernel
theorem dX2_layFrom_39 : decode cX2_layFrom 39 = .ok (.iconst 2, 1) := by decide +kernel
theorem dX2_layFrom_40 : decode cX2_layFrom 40 = .ok (.iaload, 1) := by decide +kernel
theorem dX2_layFrom_41 : decode cX2_layFrom 41 = .ok (.invokestatic 49, 3) := by decide +kernel
theorem dX2_layFrom_44 : decode cX2_layFrom 44 = .ok (.invokestatic 49, 3) := by decide +kernel
theorem dX2_layFrom_47 : decode cX2_layFrom 47 = .ok (.putfield 31, 3) := by decide +kernel
theorem dX2_layFrom_50 : decode cX2_layFrom 50 = .ok (.aload_n 0, 1) := by decide +kernel
theorem dX2_layFrom_51 : decode cX2_layFrom 51 = .ok (.getfield 21, 3) := by decide +kernel
theorem dX2_layFrom_54 : decode cX2_layFrom 54 = .ok (.iconst 0, 1) := by decide +kernel
theorem dX2_layFrom_55 : decode cX2_layFrom 55 = .ok (.aload_n 0, 1) := by decide +kernel
theorem dX2_layFrom_56 : decode cX2_layFrom 56 = .ok (.getfield 28, 3) := by decide +kernel
theorem dX2_layFrom_59 : decode cX2_layFrom 59 = .ok (.iconst 0, 1) := by decide +kernel
theorem dX2_layFrom_60 : decode cX2_layFrom 60 = .ok (.aload_n 0, 1) := by decide +kernel
theorem dX2_layFrom_61 : decode cX2_layFrom 61 = .ok (.getfield 24, 3) := by decide +kernel
theorem dX2_layFrom_64 : decode cX2_layFrom 64 = .ok (.invokestatic 55, 3) := by decide +kernel
theorem dX2_layFrom_67 : decode cX2_layFrom 67 = .ok (.return_, 1) := by decide +kernel
theorem dX2_layFrom_68 : decode cX2_layFrom 68 = .ok (.iconst 0, 1) := by decide +kernel
theorem dX2_layFrom_69 : decode cX2_layFrom 69 = .ok (.istore_n 3, 1) := by decide +kernel
theorem dX2_layFrom_70 : decode cX2_layFrom 70 = .ok (.iload_n 3, 1) := by decide +kernel
theorem dX2_layFrom_71 : decode cX2_layFrom 71 = .ok (.iload_n 2, 1) := by decide +kernel
theorem dX2_layFrom_72 : decode cX2_layFrom 72 = .ok (.if_icmp .gt 70, 3) := by decide +kernel
theorem dX2_layFrom_75 : decode cX2_layFrom 75 = .ok (.iload_n 3, 1) := by decide +kernel
theorem dX2_layFrom_76 : decode cX2_layFrom 76 = .ok (.iconst 3, 1) := by decide +kernel
theorem dX2_layFrom_77 : decode cX2_layFrom 77 = .ok (.if_icmp .ge 65, 3) := by decide +kernel
theorem dX2_layFrom_80 : decode cX2_layFrom 80 = .ok (.aload_n 0, 1) := by decide +kernel
theorem dX2_layFrom_81 : decode cX2_layFrom 81 = .ok (.getfield 21, 3) := by decide +kernel
theorem dX2_layFrom_84 : decode cX2_layFrom 84 = .ok (.iload_n 1, 1) := by decide +kernel
theorem dX2_layFrom_85 : decode cX2_layFrom 85 = .ok (.iload_n 3, 1) := by decide +kernel
theorem dX2_layFrom_86 : decode cX2_layFrom 86 = .ok (.iastore, 1) := by decide +kernel
theorem dX2_layFrom_87 : decode cX2_layFrom 87 = .ok (.aload_n 0, 1) := by decide +kernel
theorem dX2_layFrom_88 : decode cX2_layFrom 88 = .ok (.getfield 18, 3) := by decide +kernel
theorem dX2_layFrom_91 : decode cX2_layFrom 91 = .ok (.iload_n 3, 1) := by decide +kernel
theorem dX2_layFrom_92 : decode cX2_layFrom 92 = .ok (.dup2, 1) := by decide +kernel
theorem dX2_layFrom_93 : decode cX2_layFrom 93 = .ok (.iaload, 1) := by decide +kernel
theorem dX2_layFrom_94 : decode cX2_layFrom 94 = .ok (.aload_n 0, 1) := by decide +kernel
theorem dX2_layFrom_95 : decode cX2_layFrom 95 = .ok (.getfield 9, 3) := by decide +kernel
theorem dX2_layFrom_98 : decode cX2_layFrom 98 = .ok (.iload_n 1, 1) := by decide +kernel
theorem dX2_layFrom_99 : decode cX2_layFrom 99 = .ok (.iaload, 1) := by decide +kernel
theorem dX2_layFrom_100 : decode cX2_layFrom 100 = .ok (.iadd, 1) := by decide +kernel
theorem dX2_layFrom_101 : decode cX2_layFrom 101 = .ok (.iastore, 1) := by decide +kernel
theorem dX2_layFrom_102 : decode cX2_layFrom 102 = .ok (.aload_n 0, 1) := by decide +kernel
theorem dX2_layFrom_103 : decode cX2_layFrom 103 = .ok (.iload_n 1, 1) := by decide +kernel
theorem dX2_layFrom_104 : decode cX2_layFrom 104 = .ok (.iconst 1, 1) := by decide +kernel
theorem dX2_layFrom_105 : decode cX2_layFrom 105 = .ok (.iadd, 1) := by decide +kernel
theorem dX2_layFrom_106 : decode cX2_layFrom 106 = .ok (.iload_n 3, 1) := by decide +kernel
theorem dX2_layFrom_107 : decode cX2_layFrom 107 = .ok (.iload_n 2, 1) := by decide +kernel
theorem dX2_layFrom_108 : decode cX2_layFrom 108 = .ok (.if_icmp .ne 9, 3) := by decide +kernel
theorem dX2_layFrom_111 : decode cX2_layFrom 111 = .ok (.iload_n 2, 1) := by decide +kernel
theorem dX2_layFrom_112 : decode cX2_layFrom 112 = .ok (.iconst 1, 1) := by decide +kernel
theorem dX2_layFrom_113 : decode cX2_layFrom 113 = .ok (.iadd, 1) := by decide +kernel
theorem dX2_layFrom_114 : decode cX2_layFrom 114 = .ok (.goto 4, 3) := by decide +kernel
theorem dX2_layFrom_117 : decode cX2_layFrom 117 = .ok (.iload_n 2, 1) := by decide +kernel
theorem dX2_layFrom_118 : decode cX2_layFrom 118 = .ok (.invokevirtual 41, 3) := by decide +kernel
theorem dX2_layFrom_121 : decode cX2_layFrom 121 = .ok (.aload_n 0, 1) := by decide +kernel
theorem dX2_layFrom_122 : decode cX2_layFrom 122 = .ok (.getfield 18, 3) := by decide +kernel
theorem dX2_layFrom_125 : decode cX2_layFrom 125 = .ok (.iload_n 3, 1) := by decide +kernel
theorem dX2_layFrom_126 : decode cX2_layFrom 126 = .ok (.dup2, 1) := by decide +kernel
theorem dX2_layFrom_127 : decode cX2_layFrom 127 = .ok (.iaload, 1) := by decide +kernel
theorem dX2_layFrom_128 : decode cX2_layFrom 128 = .ok (.aload_n 0, 1) := by decide +kernel
theorem dX2_layFrom_129 : decode cX2_layFrom 129 = .ok (.getfield 9, 3) := by decide +kernel
theorem dX2_layFrom_132 : decode cX2_layFrom 132 = .ok (.iload_n 1, 1) := by decide +kernel
theorem dX2_layFrom_133 : decode cX2_layFrom 133 = .ok (.iaload, 1) := by decide +kernel
theorem dX2_layFrom_134 : decode cX2_layFrom 134 = .ok (.isub, 1) := by decide +kernel
theorem dX2_layFrom_135 : decode cX2_layFrom 135 = .ok (.iastore, 1) := by decide +kernel
theorem dX2_layFrom_136 : decode cX2_layFrom 136 = .ok (.iinc 3 1, 3) := by decide +kernel
theorem dX2_layFrom_139 : decode cX2_layFrom 139 = .ok (.goto (-69), 3) := by decide +kernel
theorem dX2_layFrom_142 : decode cX2_layFrom 142 = .ok (.return_, 1) := by decide +kernel
theorem dX2_missing_0 : decode cX2_missing 0 = .ok (.iconst 0, 1) := by decide +kernel
theorem dX2_missing_1 : decode cX2_missing 1 = .ok (.istore_n 1, 1) := by decide +kernel
theorem dX2_missing_2 : decode cX2_missing 2 = .ok (.iconst 0, 1) := by decide +kernel
theorem dX2_missing_3 : decode cX2_missing 3 = .ok (.istore_n 2, 1) := by decide +kernel
theorem dX2_missing_4 : decode cX2_missing 4 = .ok (.iload_n 2, 1) := by decide +kernel
theorem dX2_missing_5 : decode cX2_missing 5 = .ok (.iconst 3, 1) := by decide +kernel
theorem dX2_missing_6 : decode cX2_missing 6 = .ok (.if_icmp .ge 29, 3) := by decide +kernel
theorem dX2_missing_9 : decode cX2_missing 9 = .ok (.iload_n 1, 1) := by decide +kernel
theorem dX2_missing_10 : decode cX2_missing 10 = .ok (.iconst 0, 1) := by decide +kernel
theorem dX2_missing_11 : decode cX2_missing 11 = .ok (.aload_n 0, 1) := by decide +kernel
theorem dX2_missing_12 : decode cX2_missing 12 = .ok (.getfield 31, 3) := by decide +kernel
theorem dX2_missing_15 : decode cX2_missing 15 = .ok (.iconst 1, 1) := by decide +kernel
theorem dX2_missing_16 : decode cX2_missing 16 = .ok (.iadd, 1) := by decide +kernel
theorem dX2_missing_17 : decode cX2_missing 17 = .ok (.aload_n 0, 1) := by decide +kernel
theorem dX2_missing_18 : decode cX2_missing 18 = .ok (.getfield 18, 3) := by decide +kernel
theorem dX2_missing_21 : decode cX2_missing 21 = .ok (.iload_n 2, 1) := by decide +kernel
theorem dX2_missing_22 : decode cX2_missing 22 = .ok (.iaload, 1) := by decide +kernel
theorem dX2_missing_23 : decode cX2_missing 23 = .ok (.isub, 1) := by decide +kernel
theorem dX2_missing_24 : decode cX2_missing 24 = .ok (.invokestatic 61, 3) := by decide +kernel
theorem dX2_missing_27 : decode cX2_missing 27 = .ok (.iadd, 1) := by decide +kernel
theorem dX2_missing_28 : decode cX2_missing 28 = .ok (.istore_n 1, 1) := by decide +kernel
theorem dX2_missing_29 : decode cX2_missing 29 = .ok (.iinc 2 1, 3) := by decide +kernel
theorem dX2_missing_32 : decode cX2_missing 32 = .ok (.goto (-28), 3) := by decide +kernel
theorem dX2_missing_35 : decode cX2_missing 35 = .ok (.iload_n 1, 1) := by decide +kernel
theorem dX2_missing_36 : decode cX2_missing 36 = .ok (.ireturn, 1) := by decide +kernel
theorem dX3_init_0 : decode cX3_init 0 = .ok (.aload_n 0, 1) := by decide +kernel
theorem dX3_init_1 : decode cX3_init 1 = .ok (.invokespecial 3, 3) := by decide +kernel
theorem dX3_init_4 : decode cX3_init 4 = .ok (.aload_n 0, 1) := by decide +kernel
theorem dX3_init_5 : decode cX3_init 5 = .ok (.bipush 9, 2) := by decide +kernel
theorem dX3_init_7 : decode cX3_init 7 = .ok (.newarray .int, 2) := by decide +kernel
theorem dX3_init_9 : decode cX3_init 9 = .ok (.putfield 9, 3) := by decide +kernel
theorem dX3_init_12 : decode cX3_init 12 = .ok (.aload_n 0, 1) := by decide +kernel
theorem dX3_init_13 : decode cX3_init 13 = .ok (.sipush 512, 3) := by decide +kernel
theorem dX3_init_16 : decode cX3_init 16 = .ok (.newarray .int, 2) := by decide +kernel
theorem dX3_init_18 : decode cX3_init 18 = .ok (.putfield 15, 3) := by decide +kernel
theorem dX3_init_21 : decode cX3_init 21 = .ok (.return_, 1) := by decide +kernel
theorem dX3_search_0 : decode cX3_search 0 = .ok (.iload_n 2, 1) := by decide +kernel
theorem dX3_search_1 : decode cX3_search 1 = .ok (.iconst 3, 1) := by decide +kernel
theorem dX3_search_2 : decode cX3_search 2 = .ok (.iadd, 1) := by decide +kernel
theorem dX3_search_3 : decode cX3_search 3 = .ok (.iconst 1, 1) := by decide +kernel
theorem dX3_search_4 : decode cX3_search 4 = .ok (.isub, 1) := by decide +kernel
theorem dX3_search_5 : decode cX3_search 5 = .ok (.iconst 3, 1) := by decide +kernel
theorem dX3_search_6 : decode cX3_search 6 = .ok (.idiv, 1) := by decide +kernel
theorem dX3_search_7 : decode cX3_search 7 = .ok (.istore_n 3, 1) := by decide +kernel
theorem dX3_search_8 : decode cX3_search 8 = .ok (.iload_n 3, 1) := by decide +kernel
theorem dX3_search_9 : decode cX3_search 9 = .ok (.ifCond .ne 5, 3) := by decide +kernel
theorem dX3_search_12 : decode cX3_search 12 = .ok (.iconst 0, 1) := by decide +kernel
theorem dX3_search_13 : decode cX3_search 13 = .ok (.ireturn, 1) := by decide +kernel
theorem dX3_search_14 : decode cX3_search 14 = .ok (.iconst 0, 1) := by decide +kernel
theorem dX3_search_15 : decode cX3_search 15 = .ok (.istore 4, 2) := by decide +kernel
theorem dX3_search_17 : decode cX3_search 17 = .ok (.iload 4, 2) := by decide +kernel
theorem dX3_search_19 : decode cX3_search 19 = .ok (.aload_n 1, 1) := by decide +kernel
theorem dX3_search_20 : decode cX3_search 20 = .ok (.getfield 18, 3) := by decide +kernel
theorem dX3_search_23 : decode cX3_search 23 = .ok (.if_icmp .ge 22, 3) := by decide +kernel
theorem dX3_search_26 : decode cX3_search 26 = .ok (.aload_n 0, 1) := by decide +kernel
theorem dX3_search_27 : decode cX3_search 27 = .ok (.getfield 9, 3) := by decide +kernel
theorem dX3_search_30 : decode cX3_search 30 = .ok (.iload 4, 2) := by decide +kernel
theorem dX3_search_32 : decode cX3_search 32 = .ok (.aload_n 1, 1) := by decide +kernel
theorem dX3_search_33 : decode cX3_search 33 = .ok (.iload 4, 2) := by decide +kernel
theorem dX3_search_35 : decode cX3_search 35 = .ok (.invokevirtual 24, 3) := by decide +kernel
theorem dX3_search_38 : decode cX3_search 38 = .ok (.iastore, 1) := by decide +kernel
theorem dX3_search_39 : decode cX3_search 39 = .ok (.iinc 4 1, 3) := by decide +kernel
theorem dX3_search_42 : decode cX3_search 42 = .ok (.goto (-25), 3) := by decide +kernel
theorem dX3_search_45 : decode cX3_search 45 = .ok (.iconst (-1), 1) := by decide +kernel
theorem dX3_search_46 : decode cX3_search 46 = .ok (.istore 4, 2) := by decide +kernel
theorem dX3_search_48 : decode cX3_search 48 = .ok (.iconst 0, 1) := by decide +kernel
theorem dX3_search_49 : decode cX3_search 49 = .ok (.istore 5, 2) := by decide +kernel
theorem dX3_search_51 : decode cX3_search 51 = .ok (.aload_n 0, 1) := by decide +kernel
theorem dX3_search_52 : decode cX3_search 52 = .ok (.getfield 15, 3) := by decide +kernel
theorem dX3_search_55 : decode cX3_search 55 = .ok (.iconst 0, 1) := by decide +kernel
theorem dX3_search_56 : decode cX3_search 56 = .ok (.iconst 0, 1) := by decide +kernel
theorem dX3_search_57 : decode cX3_search 57 = .ok (.iastore, 1) := by decide +kernel
theorem dX3_search_58 : decode cX3_search 58 = .ok (.iconst 1, 1) := by decide +kernel
theorem dX3_search_59 : decode cX3_search 59 = .ok (.istore 6, 2) := by decide +kernel
theorem dX3_search_61 : decode cX3_search 61 = .ok (.iload 6, 2) := by decide +kernel
theorem dX3_search_63 : decode cX3_search 63 = .ok (.iconst 1, 1) := by decide +kernel
theorem dX3_search_64 : decode cX3_search 64 = .ok (.aload_n 1, 1) := by decide +kernel
theorem dX3_search_65 : decode cX3_search 65 = .ok (.getfield 18, 3) := by decide +kernel
theorem dX3_search_68 : decode cX3_search 68 = .ok (.ishl, 1) := by decide +kernel
theorem dX3_search_69 : decode cX3_search 69 = .ok (.if_icmp .ge 67, 3) := by decide +kernel
theorem dX3_search_72 : decode cX3_search 72 = .ok (.aload_n 0, 1) := by decide +kernel
theorem dX3_search_73 : decode cX3_search 73 = .ok (.getfield 15, 3) := by decide +kernel
theorem dX3_search_76 : decode cX3_search 76 = .ok (.iload 6, 2) := by decide +kernel
theorem dX3_search_78 : decode cX3_search 78 = .ok (.aload_n 0, 1) := by decide +kernel
theorem dX3_search_79 : decode cX3_search 79 = .ok (.iload 6, 2) := by decide +kernel
theorem dX3_search_81 : decode cX3_search 81 = .ok (.aload_n 1, 1) := by decide +kernel
theorem dX3_search_82 : decode cX3_search 82 = .ok (.getfield 18, 3) := by decide +kernel
theorem dX3_search_85 : decode cX3_search 85 = .ok (.iload_n 3, 1) := by decide +kernel
theorem dX3_search_86 : decode cX3_search 86 = .ok (.invokevirtual 28, 3) := by decide +kernel
theorem dX3_search_89 : decode cX3_search 89 = .ok (.iastore, 1) := by decide +kernel
theorem dX3_search_90 : decode cX3_search 90 = .ok (.aload_n 0, 1) := by decide +kernel
theorem dX3_search_91 : decode cX3_search 91 = .ok (.getfield 15, 3) := by decide +kernel
theorem dX3_search_94 : decode cX3_search 94 = .ok (.iload 6, 2) := by decide +kernel
theorem dX3_search_96 : decode cX3_search 96 = .ok (.iaload, 1) := by decide +kernel
theorem dX3_search_97 : decode cX3_search 97 = .ok (.ldc 32, 2) := by decide +kernel
theorem dX3_search_99 : decode cX3_search 99 = .ok (.if_icmp .lt 31, 3) := by decide +kernel
theorem dX3_search_102 : decode cX3_search 102 = .ok (.aload_n 1, 1) := by decide +kernel
theorem dX3_search_103 : decode cX3_search 103 = .ok (.iload 6, 2) := by decide +kernel
theorem dX3_search_105 : decode cX3_search 105 = .ok (.invokevirtual 33, 3) := by decide +kernel
theorem dX3_search_108 : decode cX3_search 108 = .ok (.istore 7, 2) := by decide +kernel
theorem dX3_search_110 : decode cX3_search 110 = .ok (.iload 4, 2) := by decide +kernel
theorem dX3_search_112 : decode cX3_search 112 = .ok (.ifCond .lt 10, 3) := by decide +kernel
theorem dX3_search_115 : decode cX3_search 115 = .ok (.iload 7, 2) := by decide +kernel
theorem dX3_search_117 : decode cX3_search 117 = .ok (.iload 5, 2) := by decide +kernel
theorem dX3_search_119 : decode cX3_search 119 = .ok (.if_icmp .ge 11, 3) := by decide +kernel
theorem dX3_search_122 : decode cX3_search 122 = .ok (.iload 6, 2) := by decide +kernel
theorem dX3_search_124 : decode cX3_search 124 = .ok (.istore 4, 2) := by decide +kernel
theorem dX3_search_126 : decode cX3_search 126 = .ok (.iload 7, 2) := by decide +kernel
theorem dX3_search_128 : decode cX3_search 128 = .ok (.istore 5, 2) := by decide +kernel
theorem dX3_search_130 : decode cX3_search 130 = .ok (.iinc 6 1, 3) := by decide +kernel
theorem dX3_search_133 : decode cX3_search 133 = .ok (.goto (-72), 3) := by decide +kernel
theorem dX3_search_136 : decode cX3_search 136 = .ok (.iload 4, 2) := by decide +kernel
theorem dX3_search_138 : decode cX3_search 138 = .ok (.ireturn, 1) := by decide +kernel
theorem dX3_fillBest_0 : decode cX3_fillBest 0 = .ok (.iconst 0, 1) := by decide +kernel
theorem dX3_fillBest_1 : decode cX3_fillBest 1 = .ok (.istore 4, 2) := by decide +kernel
theorem dX3_fillBest_3 : decode cX3_fillBest 3 = .ok (.iconst 0, 1) := by decide +kernel
theorem dX3_fillBest_4 : decode cX3_fillBest 4 = .ok (.istore 5, 2) := by decide +kernel
theorem dX3_fillBest_6 : decode cX3_fillBest 6 = .ok (.iload 5, 2) := by decide +kernel
theorem dX3_fillBest_8 : decode cX3_fillBest 8 = .ok (.iload_n 2, 1) := by decide +kernel
theorem dX3_fillBest_9 : decode cX3_fillBest 9 = .ok (.if_icmp .ge 70, 3) := by decide +kernel
theorem dX3_fillBest_12 : decode cX3_fillBest 12 = .ok (.iload_n 1, 1) := by decide +kernel
theorem dX3_fillBest_13 : decode cX3_fillBest 13 = .ok (.iload 5, 2) := by decide +kernel
theorem dX3_fillBest_15 : decode cX3_fillBest 15 = .ok (.ishr, 1) := by decide +kernel
theorem dX3_fillBest_16 : decode cX3_fillBest 16 = .ok (.iconst 1, 1) := by decide +kernel
theorem dX3_fillBest_17 : decode cX3_fillBest 17 = .ok (.iand, 1) := by decide +kernel
theorem dX3_fillBest_18 : decode cX3_fillBest 18 = .ok (.ifCond .eq 55, 3) := by decide +kernel
theorem dX3_fillBest_21 : decode cX3_fillBest 21 = .ok (.aload_n 0, 1) := by decide +kernel
theorem dX3_fillBest_22 : decode cX3_fillBest 22 = .ok (.getfield 15, 3) := by decide +kernel
theorem dX3_fillBest_25 : decode cX3_fillBest 25 = .ok (.iload_n 1, 1) := by decide +kernel
theorem dX3_fillBest_26 : decode cX3_fillBest 26 = .ok (.iconst 1, 1) := by decide +kernel
theorem dX3_fillBest_27 : decode cX3_fillBest 27 = .ok (.iload 5, 2) := by decide +kernel
theorem dX3_fillBest_29 : decode cX3_fillBest 29 = .ok (.ishl, 1) := by decide +kernel
theorem dX3_fillBest_30 : decode cX3_fillBest 30 = .ok (.ixor, 1) := by decide +kernel
theorem dX3_fillBest_31 : decode cX3_fillBest 31 = .ok (.iaload, 1) := by decide +kernel
theorem dX3_fillBest_32 : decode cX3_fillBest 32 = .ok (.aload_n 0, 1) := by decide +kernel
theorem dX3_fillBest_33 : decode cX3_fillBest 33 = .ok (.getfield 9, 3) := by decide +kernel
theorem dX3_fillBest_36 : decode cX3_fillBest 36 = .ok (.iload 5, 2) := by decide +kernel
theorem dX3_fillBest_38 : decode cX3_fillBest 38 = .ok (.iaload, 1) := by decide +kernel
theorem dX3_fillBest_39 : decode cX3_fillBest 39 = .ok (.iadd, 1) := by decide +kernel
theorem dX3_fillBest_40 : decode cX3_fillBest 40 = .ok (.istore 6, 2) := by decide +kernel
theorem dX3_fillBest_42 : decode cX3_fillBest 42 = .ok (.iload 6, 2) := by decide +kernel
theorem dX3_fillBest_44 : decode cX3_fillBest 44 = .ok (.ldc 36, 2) := by decide +kernel
theorem dX3_fillBest_46 : decode cX3_fillBest 46 = .ok (.irem, 1) := by decide +kernel
theorem dX3_fillBest_47 : decode cX3_fillBest 47 = .ok (.iload_n 3, 1) := by decide +kernel
theorem dX3_fillBest_48 : decode cX3_fillBest 48 = .ok (.if_icmp .lt 16, 3) := by decide +kernel
theorem dX3_fillBest_51 : decode cX3_fillBest 51 = .ok (.iload 6, 2) := by decide +kernel
theorem dX3_fillBest_53 : decode cX3_fillBest 53 = .ok (.iload 6, 2) := by decide +kernel
theorem dX3_fillBest_55 : decode cX3_fillBest 55 = .ok (.ldc 36, 2) := by decide +kernel
theorem dX3_fillBest_57 : decode cX3_fillBest 57 = .ok (.irem, 1) := by decide +kernel
theorem dX3_fillBest_58 : decode cX3_fillBest 58 = .ok (.isub, 1) := by decide +kernel
theorem dX3_fillBest_59 : decode cX3_fillBest 59 = .ok (.ldc 36, 2) := by decide +kernel
theorem dX3_fillBest_61 : decode cX3_fillBest 61 = .ok (.iadd, 1) := by decide +kernel
theorem dX3_fillBest_62 : decode cX3_fillBest 62 = .ok (.istore 6, 2) := by decide +kernel
theorem dX3_fillBest_64 : decode cX3_fillBest 64 = .ok (.iload 4, 2) := by decide +kernel
theorem dX3_fillBest_66 : decode cX3_fillBest 66 = .ok (.iload 6, 2) := by decide +kernel
theorem dX3_fillBest_68 : decode cX3_fillBest 68 = .ok (.invokestatic 37, 3) := by decide +kernel
theorem dX3_fillBest_71 : decode cX3_fillBest 71 = .ok (.istore 4, 2) := by decide +kernel
theorem dX3_fillBest_73 : decode cX3_fillBest 73 = .ok (.iinc 5 1, 3) := by decide +kernel
theorem dX3_fillBest_76 : decode cX3_fillBest 76 = .ok (.goto (-70), 3) := by decide +kernel
theorem dX3_fillBest_79 : decode cX3_fillBest 79 = .ok (.iload 4, 2) := by decide +kernel
theorem dX3_fillBest_81 : decode cX3_fillBest 81 = .ok (.ireturn, 1) := by decide +kernel
theorem dX4_isOne_0 : decode cX4_isOne 0 = .ok (.iload_n 0, 1) := by decide +kernel
theorem dX4_isOne_1 : decode cX4_isOne 1 = .ok (.istore_n 2, 1) := by decide +kernel
theorem dX4_isOne_2 : decode cX4_isOne 2 = .ok (.iconst 0, 1) := by decide +kernel
theorem dX4_isOne_3 : decode cX4_isOne 3 = .ok (.istore_n 3, 1) := by decide +kernel
theorem dX4_isOne_4 : decode cX4_isOne 4 = .ok (.iload_n 3, 1) := by decide +kernel
theorem dX4_isOne_5 : decode cX4_isOne 5 = .ok (.iconst 5, 1) := by decide +kernel
theorem dX4_isOne_6 : decode cX4_isOne 6 = .ok (.if_icmp .ge 20, 3) := by decide +kernel
theorem dX4_isOne_9 : decode cX4_isOne 9 = .ok (.iload_n 2, 1) := by decide +kernel
theorem dX4_isOne_10 : decode cX4_isOne 10 = .ok (.iload_n 1, 1) := by decide +kernel
theorem dX4_isOne_11 : decode cX4_isOne 11 = .ok (.if_icmp .eq 15, 3) := by decide +kernel
theorem dX4_isOne_14 : decode cX4_isOne 14 = .ok (.getstatic 9, 3) := by decide +kernel
theorem dX4_isOne_17 : decode cX4_isOne 17 = .ok (.iload_n 2, 1) := by decide +kernel
theorem dX4_isOne_18 : decode cX4_isOne 18 = .ok (.iaload, 1) := by decide +kernel
theorem dX4_isOne_19 : decode cX4_isOne 19 = .ok (.istore_n 2, 1) := by decide +kernel
theorem dX4_isOne_20 : decode cX4_isOne 20 = .ok (.iinc 3 1, 3) := by decide +kernel
theorem dX4_isOne_23 : decode cX4_isOne 23 = .ok (.goto (-19), 3) := by decide +kernel
theorem dX4_isOne_26 : decode cX4_isOne 26 = .ok (.iload_n 2, 1) := by decide +kernel
theorem dX4_isOne_27 : decode cX4_isOne 27 = .ok (.iload_n 1, 1) := by decide +kernel
theorem dX4_isOne_28 : decode cX4_isOne 28 = .ok (.if_icmp .ne 7, 3) := by decide +kernel
theorem dX4_isOne_31 : decode cX4_isOne 31 = .ok (.iconst 1, 1) := by decide +kernel
theorem dX4_isOne_32 : decode cX4_isOne 32 = .ok (.goto 4, 3) := by decide +kernel
theorem dX4_isOne_35 : decode cX4_isOne 35 = .ok (.iconst 0, 1) := by decide +kernel
theorem dX4_isOne_36 : decode cX4_isOne 36 = .ok (.ireturn, 1) := by decide +kernel
theorem dX4_sizeBody_0 : decode cX4_sizeBody 0 = .ok (.getstatic 13, 3) := by decide +kernel
theorem dX4_sizeBody_3 : decode cX4_sizeBody 3 = .ok (.iload_n 0, 1) := by decide +kernel
theorem dX4_sizeBody_4 : decode cX4_sizeBody 4 = .ok (.invokestatic 16, 3) := by decide +kernel
theorem dX4_sizeBody_7 : decode cX4_sizeBody 7 = .ok (.ireturn, 1) := by decide +kernel
theorem dX4_markBody_0 : decode cX4_markBody 0 = .ok (.getstatic 20, 3) := by decide +kernel
theorem dX4_markBody_3 : decode cX4_markBody 3 = .ok (.iload_n 0, 1) := by decide +kernel
theorem dX4_markBody_4 : decode cX4_markBody 4 = .ok (.invokestatic 16, 3) := by decide +kernel
theorem dX4_markBody_7 : decode cX4_markBody 7 = .ok (.ireturn, 1) := by decide +kernel
theorem dX4_nearest_0 : decode cX4_nearest 0 = .ok (.iload_n 1, 1) := by decide +kernel
theorem dX4_nearest_1 : decode cX4_nearest 1 = .ok (.istore_n 2, 1) := by decide +kernel
theorem dX4_nearest_2 : decode cX4_nearest 2 = .ok (.iconst 0, 1) := by decide +kernel
theorem dX4_nearest_3 : decode cX4_nearest 3 = .ok (.istore_n 3, 1) := by decide +kernel
theorem dX4_nearest_4 : decode cX4_nearest 4 = .ok (.iload_n 3, 1) := by decide +kernel
theorem dX4_nearest_5 : decode cX4_nearest 5 = .ok (.iconst 5, 1) := by decide +kernel
theorem dX4_nearest_6 : decode cX4_nearest 6 = .ok (.if_icmp .ge 21, 3) := by decide +kernel
theorem dX4_nearest_9 : decode cX4_nearest 9 = .ok (.aload_n 0, 1) := by decide +kernel
theorem dX4_nearest_10 : decode cX4_nearest 10 = .ok (.iload_n 2, 1) := by decide +kernel
theorem dX4_nearest_11 : decode cX4_nearest 11 = .ok (.iaload, 1) := by decide +kernel
theorem dX4_nearest_12 : decode cX4_nearest 12 = .ok (.ifCond .ne 15, 3) := by decide +kernel
theorem dX4_nearest_15 : decode cX4_nearest 15 = .ok (.getstatic 9, 3) := by decide +kernel
theorem dX4_nearest_18 : decode cX4_nearest 18 = .ok (.iload_n 2, 1) := by decide +kernel
theorem dX4_nearest_19 : decode cX4_nearest 19 = .ok (.iaload, 1) := by decide +kernel
theorem dX4_nearest_20 : decode cX4_nearest 20 = .ok (.istore_n 2, 1) := by decide +kernel
theorem dX4_nearest_21 : decode cX4_nearest 21 = .ok (.iinc 3 1, 3) := by decide +kernel
theorem dX4_nearest_24 : decode cX4_nearest 24 = .ok (.goto (-20), 3) := by decide +kernel
theorem dX4_nearest_27 : decode cX4_nearest 27 = .ok (.aload_n 0, 1) := by decide +kernel
theorem dX4_nearest_28 : decode cX4_nearest 28 = .ok (.iload_n 2, 1) := by decide +kernel
theorem dX4_nearest_29 : decode cX4_nearest 29 = .ok (.iaload, 1) := by decide +kernel
theorem dX4_nearest_30 : decode cX4_nearest 30 = .ok (.ireturn, 1) := by decide +kernel
theorem dX5_init_0 : decode cX5_init 0 = .ok (.aload_n 0, 1) := by decide +kernel
theorem dX5_init_1 : decode cX5_init 1 = .ok (.invokespecial 3, 3) := by decide +kernel
theorem dX5_init_4 : decode cX5_init 4 = .ok (.aload_n 0, 1) := by decide +kernel
theorem dX5_init_5 : decode cX5_init 5 = .ok (.iconst 3, 1) := by decide +kernel
theorem dX5_init_6 : decode cX5_init 6 = .ok (.newarray .int, 2) := by decide +kernel
theorem dX5_init_8 : decode cX5_init 8 = .ok (.putfield 9, 3) := by decide +kernel
theorem dX5_init_11 : decode cX5_init 11 = .ok (.aload_n 0, 1) := by decide +kernel
theorem dX5_init_12 : decode cX5_init 12 = .ok (.iconst 0, 1) := by decide +kernel
theorem dX5_init_13 : decode cX5_init 13 = .ok (.putfield 15, 3) := by decide +kernel
theorem dX5_init_16 : decode cX5_init 16 = .ok (.aload_n 0, 1) := by decide +kernel
theorem dX5_init_17 : decode cX5_init 17 = .ok (.iconst 0, 1) := by decide +kernel
theorem dX5_init_18 : decode cX5_init 18 = .ok (.putfield 19, 3) := by decide +kernel
theorem dX5_init_21 : decode cX5_init 21 = .ok (.aload_n 0, 1) := by decide +kernel
theorem dX5_init_22 : decode cX5_init 22 = .ok (.iconst 1, 1) := by decide +kernel
theorem dX5_init_23 : decode cX5_init 23 = .ok (.putfield 22, 3) := by decide +kernel
theorem dX5_init_26 : decode cX5_init 26 = .ok (.return_, 1) := by decide +kernel
theorem dX5_reckon_0 : decode cX5_reckon 0 = .ok (.aload_n 0, 1) := by decide +kernel
theorem dX5_reckon_1 : decode cX5_reckon 1 = .ok (.iload_n 2, 1) := by decide +kernel
theorem dX5_reckon_2 : decode cX5_reckon 2 = .ok (.iconst 3, 1) := by decide +kernel
theorem dX5_reckon_3 : decode cX5_reckon 3 = .ok (.iadd, 1) := by decide +kernel
theorem dX5_reckon_4 : decode cX5_reckon 4 = .ok (.iconst 1, 1) := by decide +kernel
theorem dX5_reckon_5 : decode cX5_reckon 5 = .ok (.isub, 1) := by decide +kernel
theorem dX5_reckon_6 : decode cX5_reckon 6 = .ok (.iconst 3, 1) := by decide +kernel
theorem dX5_reckon_7 : decode cX5_reckon 7 = .ok (.idiv, 1) := by decide +kernel
theorem dX5_reckon_8 : decode cX5_reckon 8 = .ok (.putfield 15, 3) := by decide +kernel
theorem dX5_reckon_11 : decode cX5_reckon 11 = .ok (.iconst 0, 1) := by decide +kernel
theorem dX5_reckon_12 : decode cX5_reckon 12 = .ok (.istore_n 3, 1) := by decide +kernel
theorem dX5_reckon_13 : decode cX5_reckon 13 = .ok (.iload_n 3, 1) := by decide +kernel
theorem dX5_reckon_14 : decode cX5_reckon 14 = .ok (.iconst 3, 1) := by decide +kernel
theorem dX5_reckon_15 : decode cX5_reckon 15 = .ok (.if_icmp .ge 16, 3) := by decide +kernel
theorem dX5_reckon_18 : decode cX5_reckon 18 = .ok (.aload_n 0, 1) := by decide +kernel
theorem dX5_reckon_19 : decode cX5_reckon 19 = .ok (.getfield 9, 3) := by decide +kernel
theorem dX5_reckon_22 : decode cX5_reckon 22 = .ok (.iload_n 3, 1) := by decide +kernel
theorem dX5_reckon_23 : decode cX5_reckon 23 = .ok (.iconst 0, 1) := by decide +kernel
theorem dX5_reckon_24 : decode cX5_reckon 24 = .ok (.iastore, 1) := by decide +kernel
theorem dX5_reckon_25 : decode cX5_reckon 25 = .ok (.iinc 3 1, 3) := by decide +kernel
theorem dX5_reckon_28 : decode cX5_reckon 28 = .ok (.goto (-15), 3) := by decide +kernel
theorem dX5_reckon_31 : decode cX5_reckon 31 = .ok (.aload_n 0, 1) := by decide +kernel
theorem dX5_reckon_32 : decode cX5_reckon 32 = .ok (.aload_n 0, 1) := by decide +kernel
theorem dX5_reckon_33 : decode cX5_reckon 33 = .ok (.aload_n 1, 1) := by decide +kernel
theorem dX5_reckon_34 : decode cX5_reckon 34 = .ok (.iconst 0, 1) := by decide +kernel
theorem dX5_reckon_35 : decode cX5_reckon 35 = .ok (.invokevirtual 25, 3) := by decide +kernel
theorem dX5_reckon_38 : decode cX5_reckon 38 = .ok (.putfield 19, 3) := by decide +kernel
theorem dX5_reckon_41 : decode cX5_reckon 41 = .ok (.aload_n 0, 1) := by decide +kernel
theorem dX5_reckon_42 : decode cX5_reckon 42 = .ok (.iconst 1, 1) := by decide +kernel
theorem dX5_reckon_43 : decode cX5_reckon 43 = .ok (.putfield 22, 3) := by decide +kernel
theorem dX5_reckon_46 : decode cX5_reckon 46 = .ok (.iconst 0, 1) := by decide +kernel
theorem dX5_reckon_47 : decode cX5_reckon 47 = .ok (.istore_n 3, 1) := by decide +kernel
theorem dX5_reckon_48 : decode cX5_reckon 48 = .ok (.iload_n 3, 1) := by decide +kernel
theorem dX5_reckon_49 : decode cX5_reckon 49 = .ok (.aload_n 1, 1) := by decide +kernel
theorem dX5_reckon_50 : decode cX5_reckon 50 = .ok (.getfield 29, 3) := by decide +kernel
theorem dX5_reckon_53 : decode cX5_reckon 53 = .ok (.if_icmp .ge 20, 3) := by decide +kernel
theorem dX5_reckon_56 : decode cX5_reckon 56 = .ok (.aload_n 0, 1) := by decide +kernel
theorem dX5_reckon_57 : decode cX5_reckon 57 = .ok (.dup, 1) := by decide +kernel
theorem dX5_reckon_58 : decode cX5_reckon 58 = .ok (.getfield 22, 3) := by decide +kernel
theorem dX5_reckon_61 : decode cX5_reckon 61 = .ok (.bipush 10, 2) := by decide +kernel
theorem dX5_reckon_63 : decode cX5_reckon 63 = .ok (.imul, 1) := by decide +kernel
theorem dX5_reckon_64 : decode cX5_reckon 64 = .ok (.putfield 22, 3) := by decide +kernel
theorem dX5_reckon_67 : decode cX5_reckon 67 = .ok (.iinc 3 1, 3) := by decide +kernel
theorem dX5_reckon_70 : decode cX5_reckon 70 = .ok (.goto (-22), 3) := by decide +kernel
theorem dX5_reckon_73 : decode cX5_reckon 73 = .ok (.iconst 0, 1) := by decide +kernel
theorem dX5_reckon_74 : decode cX5_reckon 74 = .ok (.istore_n 3, 1) := by decide +kernel
theorem dX5_reckon_75 : decode cX5_reckon 75 = .ok (.iload_n 3, 1) := by decide +kernel
theorem dX5_reckon_76 : decode cX5_reckon 76 = .ok (.aload_n 1, 1) := by decide +kernel
theorem dX5_reckon_77 : decode cX5_reckon 77 = .ok (.getfield 29, 3) := by decide +kernel
theorem dX5_reckon_80 : decode cX5_reckon 80 = .ok (.if_icmp .ge 17, 3) := by decide +kernel
theorem dX5_reckon_83 : decode cX5_reckon 83 = .ok (.aload_n 0, 1) := by decide +kernel
theorem dX5_reckon_84 : decode cX5_reckon 84 = .ok (.invokevirtual 34, 3) := by decide +kernel
theorem dX5_reckon_87 : decode cX5_reckon 87 = .ok (.aload_n 0, 1) := by decide +kernel
theorem dX5_reckon_88 : decode cX5_reckon 88 = .ok (.invokevirtual 37, 3) := by decide +kernel
theorem dX5_reckon_91 : decode cX5_reckon 91 = .ok (.iinc 3 1, 3) := by decide +kernel
theorem dX5_reckon_94 : decode cX5_reckon 94 = .ok (.goto (-19), 3) := by decide +kernel
theorem dX5_reckon_97 : decode cX5_reckon 97 = .ok (.return_, 1) := by decide +kernel
theorem dX5_yearsFrom_0 : decode cX5_yearsFrom 0 = .ok (.iload_n 2, 1) := by decide +kernel
theorem dX5_yearsFrom_1 : decode cX5_yearsFrom 1 = .ok (.aload_n 1, 1) := by decide +kernel
theorem dX5_yearsFrom_2 : decode cX5_yearsFrom 2 = .ok (.getfield 29, 3) := by decide +kernel
theorem dX5_yearsFrom_5 : decode cX5_yearsFrom 5 = .ok (.if_icmp .lt 48, 3) := by decide +kernel
theorem dX5_yearsFrom_8 : decode cX5_yearsFrom 8 = .ok (.aload_n 0, 1) := by decide +kernel
theorem dX5_yearsFrom_9 : decode cX5_yearsFrom 9 = .ok (.getfield 9, 3) := by decide +kernel
theorem dX5_yearsFrom_12 : decode cX5_yearsFrom 12 = .ok (.iconst 0, 1) := by decide +kernel
theorem dX5_yearsFrom_13 : decode cX5_yearsFrom 13 = .ok (.iaload, 1) := by decide +kernel
theorem dX5_yearsFrom_14 : decode cX5_yearsFrom 14 = .ok (.aload_n 0, 1) := by decide +kernel
theorem dX5_yearsFrom_15 : decode cX5_yearsFrom 15 = .ok (.getfield 15, 3) := by decide +kernel
theorem dX5_yearsFrom_18 : decode cX5_yearsFrom 18 = .ok (.if_icmp .lt 33, 3) := by decide +kernel
theorem dX5_yearsFrom_21 : decode cX5_yearsFrom 21 = .ok (.aload_n 0, 1) := by decide +kernel
theorem dX5_yearsFrom_22 : decode cX5_yearsFrom 22 = .ok (.getfield 9, 3) := by decide +kernel
theorem dX5_yearsFrom_25 : decode cX5_yearsFrom 25 = .ok (.iconst 1, 1) := by decide +kernel
theorem dX5_yearsFrom_26 : decode cX5_yearsFrom 26 = .ok (.iaload, 1) := by decide +kernel
theorem dX5_yearsFrom_27 : decode cX5_yearsFrom 27 = .ok (.aload_n 0, 1) := by decide +kernel
theorem dX5_yearsFrom_28 : decode cX5_yearsFrom 28 = .ok (.getfield 15, 3) := by decide +kernel
theorem dX5_yearsFrom_31 : decode cX5_yearsFrom 31 = .ok (.if_icmp .lt 20, 3) := by decide +kernel
theorem dX5_yearsFrom_34 : decode cX5_yearsFrom 34 = .ok (.aload_n 0, 1) := by decide +kernel
theorem dX5_yearsFrom_35 : decode cX5_yearsFrom 35 = .ok (.getfield 9, 3) := by decide +kernel
theorem dX5_yearsFrom_38 : decode cX5_yearsFrom 38 = .ok (.iconst 2, 1) := by decide +kernel
theorem dX5_yearsFrom_39 : decode cX5_yearsFrom 39 = .ok (.iaload, 1) := by decide +kernel
theorem dX5_yearsFrom_40 : decode cX5_yearsFrom 40 = .ok (.aload_n 0, 1) := by decide +kernel
theorem dX5_yearsFrom_41 : decode cX5_yearsFrom 41 = .ok (.getfield 15, 3) := by decide +kernel
theorem dX5_yearsFrom_44 : decode cX5_yearsFrom 44 = .ok (.if_icmp .lt 7, 3) := by decide +kernel
theorem dX5_yearsFrom_47 : decode cX5_yearsFrom 47 = .ok (.iconst 1, 1) := by decide +kernel
theorem dX5_yearsFrom_48 : decode cX5_yearsFrom 48 = .ok (.goto 4, 3) := by decide +kernel
theorem dX5_yearsFrom_51 : decode cX5_yearsFrom 51 = .ok (.iconst 0, 1) := by decide +kernel
theorem dX5_yearsFrom_52 : decode cX5_yearsFrom 52 = .ok (.ireturn, 1) := by decide +kernel
theorem dX5_yearsFrom_53 : decode cX5_yearsFrom 53 = .ok (.aload_n 1, 1) := by decide +kernel
theorem dX5_yearsFrom_54 : decode cX5_yearsFrom 54 = .ok (.getfield 40, 3) := by decide +kernel
theorem dX5_yearsFrom_57 : decode cX5_yearsFrom 57 = .ok (.iconst 0, 1) := by decide +kernel
theorem dX5_yearsFrom_58 : decode cX5_yearsFrom 58 = .ok (.iload_n 2, 1) := by decide +kernel
theorem dX5_yearsFrom_59 : decode cX5_yearsFrom 59 = .ok (.iadd, 1) := by decide +kernel
theorem dX5_yearsFrom_60 : decode cX5_yearsFrom 60 = .ok (.iaload, 1) := by decide +kernel
theorem dX5_yearsFrom_61 : decode cX5_yearsFrom 61 = .ok (.istore_n 3, 1) := by decide +kernel
theorem dX5_yearsFrom_62 : decode cX5_yearsFrom 62 = .ok (.iload_n 3, 1) := by decide +kernel
theorem dX5_yearsFrom_63 : decode cX5_yearsFrom 63 = .ok (.iconst (-1), 1) := by decide +kernel
theorem dX5_yearsFrom_64 : decode cX5_yearsFrom 64 = .ok (.if_icmp .ne 15, 3) := by decide +kernel
theorem dX5_yearsFrom_67 : decode cX5_yearsFrom 67 = .ok (.bipush 10, 2) := by decide +kernel
theorem dX5_yearsFrom_69 : decode cX5_yearsFrom 69 = .ok (.aload_n 0, 1) := by decide +kernel
theorem dX5_yearsFrom_70 : decode cX5_yearsFrom 70 = .ok (.aload_n 1, 1) := by decide +kernel
theorem dX5_yearsFrom_71 : decode cX5_yearsFrom 71 = .ok (.iload_n 2, 1) := by decide +kernel
theorem dX5_yearsFrom_72 : decode cX5_yearsFrom 72 = .ok (.iconst 1, 1) := by decide +kernel
theorem dX5_yearsFrom_73 : decode cX5_yearsFrom 73 = .ok (.iadd, 1) := by decide +kernel
theorem dX5_yearsFrom_74 : decode cX5_yearsFrom 74 = .ok (.invokevirtual 25, 3) := by decide +kernel
theorem dX5_yearsFrom_77 : decode cX5_yearsFrom 77 = .ok (.imul, 1) := by decide +kernel
theorem dX5_yearsFrom_78 : decode cX5_yearsFrom 78 = .ok (.ireturn, 1) := by decide +kernel
theorem dX5_yearsFrom_79 : decode cX5_yearsFrom 79 = .ok (.aload_n 1, 1) := by decide +kernel
theorem dX5_yearsFrom_80 : decode cX5_yearsFrom 80 = .ok (.iload_n 2, 1) := by decide +kernel
theorem dX5_yearsFrom_81 : decode cX5_yearsFrom 81 = .ok (.invokevirtual 43, 3) := by decide +kernel
theorem dX5_yearsFrom_84 : decode cX5_yearsFrom 84 = .ok (.istore 4, 2) := by decide +kernel
theorem dX5_yearsFrom_86 : decode cX5_yearsFrom 86 = .ok (.iconst 0, 1) := by decide +kernel
theorem dX5_yearsFrom_87 : decode cX5_yearsFrom 87 = .ok (.istore 5, 2) := by decide +kernel
theorem dX5_yearsFrom_89 : decode cX5_yearsFrom 89 = .ok (.iload 4, 2) := by decide +kernel
theorem dX5_yearsFrom_91 : decode cX5_yearsFrom 91 = .ok (.bipush 10, 2) := by decide +kernel
theorem dX5_yearsFrom_93 : decode cX5_yearsFrom 93 = .ok (.if_icmp .ge 22, 3) := by decide +kernel
theorem dX5_yearsFrom_96 : decode cX5_yearsFrom 96 = .ok (.iload 5, 2) := by decide +kernel
theorem dX5_yearsFrom_98 : decode cX5_yearsFrom 98 = .ok (.bipush 10, 2) := by decide +kernel
theorem dX5_yearsFrom_100 : decode cX5_yearsFrom 100 = .ok (.iload 4, 2) := by decide +kernel
theorem dX5_yearsFrom_102 : decode cX5_yearsFrom 102 = .ok (.isub, 1) := by decide +kernel
theorem dX5_yearsFrom_103 : decode cX5_yearsFrom 103 = .ok (.aload_n 0, 1) := by decide +kernel
theorem dX5_yearsFrom_104 : decode cX5_yearsFrom 104 = .ok (.aload_n 1, 1) := by decide +kernel
theorem dX5_yearsFrom_105 : decode cX5_yearsFrom 105 = .ok (.iload_n 2, 1) := by decide +kernel
theorem dX5_yearsFrom_106 : decode cX5_yearsFrom 106 = .ok (.iconst 1, 1) := by decide +kernel
theorem dX5_yearsFrom_107 : decode cX5_yearsFrom 107 = .ok (.iadd, 1) := by decide +kernel
theorem dX5_yearsFrom_108 : decode cX5_yearsFrom 108 = .ok (.invokevirtual 25, 3) := by decide +kernel
theorem dX5_yearsFrom_111 : decode cX5_yearsFrom 111 = .ok (.imul, 1) := by decide +kernel
theorem dX5_yearsFrom_112 : decode cX5_yearsFrom 112 = .ok (.iadd, 1) := by decide +kernel
theorem dX5_yearsFrom_113 : decode cX5_yearsFrom 113 = .ok (.istore 5, 2) := by decide +kernel
theorem dX5_yearsFrom_115 : decode cX5_yearsFrom 115 = .ok (.iload 4, 2) := by decide +kernel
theorem dX5_yearsFrom_117 : decode cX5_yearsFrom 117 = .ok (.ifCond .le 49, 3) := by decide +kernel
theorem dX5_yearsFrom_120 : decode cX5_yearsFrom 120 = .ok (.aload_n 1, 1) := by decide +kernel
theorem dX5_yearsFrom_121 : decode cX5_yearsFrom 121 = .ok (.iload_n 2, 1) := by decide +kernel
theorem dX5_yearsFrom_122 : decode cX5_yearsFrom 122 = .ok (.iconst 1, 1) := by decide +kernel
theorem dX5_yearsFrom_123 : decode cX5_yearsFrom 123 = .ok (.invokevirtual 47, 3) := by decide +kernel
theorem dX5_yearsFrom_126 : decode cX5_yearsFrom 126 = .ok (.istore 6, 2) := by decide +kernel
theorem dX5_yearsFrom_128 : decode cX5_yearsFrom 128 = .ok (.aload_n 0, 1) := by decide +kernel
theorem dX5_yearsFrom_129 : decode cX5_yearsFrom 129 = .ok (.getfield 9, 3) := by decide +kernel
theorem dX5_yearsFrom_132 : decode cX5_yearsFrom 132 = .ok (.iload_n 3, 1) := by decide +kernel
theorem dX5_yearsFrom_133 : decode cX5_yearsFrom 133 = .ok (.dup2, 1) := by decide +kernel
theorem dX5_yearsFrom_134 : decode cX5_yearsFrom 134 = .ok (.iaload, 1) := by decide +kernel
theorem dX5_yearsFrom_135 : decode cX5_yearsFrom 135 = .ok (.iload 6, 2) := by decide +kernel
theorem dX5_yearsFrom_137 : decode cX5_yearsFrom 137 = .ok (.iadd, 1) := by decide +kernel
theorem dX5_yearsFrom_138 : decode cX5_yearsFrom 138 = .ok (.iastore, 1) := by decide +kernel
theorem dX5_yearsFrom_139 : decode cX5_yearsFrom 139 = .ok (.iload 5, 2) := by decide +kernel
theorem dX5_yearsFrom_141 : decode cX5_yearsFrom 141 = .ok (.iload 4, 2) := by decide +kernel
theorem dX5_yearsFrom_143 : decode cX5_yearsFrom 143 = .ok (.aload_n 0, 1) := by decide +kernel
theorem dX5_yearsFrom_144 : decode cX5_yearsFrom 144 = .ok (.aload_n 1, 1) := by decide +kernel
theorem dX5_yearsFrom_145 : decode cX5_yearsFrom 145 = .ok (.iload_n 2, 1) := by decide +kernel
theorem dX5_yearsFrom_146 : decode cX5_yearsFrom 146 = .ok (.iconst 1, 1) := by decide +kernel
theorem dX5_yearsFrom_147 : decode cX5_yearsFrom 147 = .ok (.iadd, 1) := by decide +kernel
theorem dX5_yearsFrom_148 : decode cX5_yearsFrom 148 = .ok (.invokevirtual 25, 3) := by decide +kernel
theorem dX5_yearsFrom_151 : decode cX5_yearsFrom 151 = .ok (.imul, 1) := by decide +kernel
theorem dX5_yearsFrom_152 : decode cX5_yearsFrom 152 = .ok (.iadd, 1) := by decide +kernel
theorem dX5_yearsFrom_153 : decode cX5_yearsFrom 153 = .ok (.istore 5, 2) := by decide +kernel
theorem dX5_yearsFrom_155 : decode cX5_yearsFrom 155 = .ok (.aload_n 0, 1) := by decide +kernel
theorem dX5_yearsFrom_156 : decode cX5_yearsFrom 156 = .ok (.getfield 9, 3) := by decide +kernel
theorem dX5_yearsFrom_159 : decode cX5_yearsFrom 159 = .ok (.iload_n 3, 1) := by decide +kernel
theorem dX5_yearsFrom_160 : decode cX5_yearsFrom 160 = .ok (.dup2, 1) := by decide +kernel
theorem dX5_yearsFrom_161 : decode cX5_yearsFrom 161 = .ok (.iaload, 1) := by decide +kernel
theorem dX5_yearsFrom_162 : decode cX5_yearsFrom 162 = .ok (.iload 6, 2) := by decide +kernel
theorem dX5_yearsFrom_164 : decode cX5_yearsFrom 164 = .ok (.isub, 1) := by decide +kernel
theorem dX5_yearsFrom_165 : decode cX5_yearsFrom 165 = .ok (.iastore, 1) := by decide +kernel
theorem dX5_yearsFrom_166 : decode cX5_yearsFrom 166 = .ok (.iload 5, 2) := by decide +kernel
theorem dX5_yearsFrom_168 : decode cX5_yearsFrom 168 = .ok (.ireturn, 1) := by decide +kernel
theorem dX5_divideByTwo_0 : decode cX5_divideByTwo 0 = .ok (.aload_n 0, 1) := by decide +kernel
theorem dX5_divideByTwo_1 : decode cX5_divideByTwo 1 = .ok (.getfield 19, 3) := by decide +kernel
theorem dX5_divideByTwo_4 : decode cX5_divideByTwo 4 = .ok (.iconst 2, 1) := by decide +kernel
theorem dX5_divideByTwo_5 : decode cX5_divideByTwo 5 = .ok (.irem, 1) := by decide +kernel
theorem dX5_divideByTwo_6 : decode cX5_divideByTwo 6 = .ok (.ifCond .ne 32, 3) := by decide +kernel
theorem dX5_divideByTwo_9 : decode cX5_divideByTwo 9 = .ok (.aload_n 0, 1) := by decide +kernel
theorem dX5_divideByTwo_10 : decode cX5_divideByTwo 10 = .ok (.getfield 22, 3) := by decide +kernel
theorem dX5_divideByTwo_13 : decode cX5_divideByTwo 13 = .ok (.iconst 2, 1) := by decide +kernel
theorem dX5_divideByTwo_14 : decode cX5_divideByTwo 14 = .ok (.irem, 1) := by decide +kernel
theorem dX5_divideByTwo_15 : decode cX5_divideByTwo 15 = .ok (.ifCond .ne 23, 3) := by decide +kernel
theorem dX5_divideByTwo_18 : decode cX5_divideByTwo 18 = .ok (.aload_n 0, 1) := by decide +kernel
theorem dX5_divideByTwo_19 : decode cX5_divideByTwo 19 = .ok (.dup, 1) := by decide +kernel
theorem dX5_divideByTwo_20 : decode cX5_divideByTwo 20 = .ok (.getfield 19, 3) := by decide +kernel
theorem dX5_divideByTwo_23 : decode cX5_divideByTwo 23 = .ok (.iconst 2, 1) := by decide +kernel
theorem dX5_divideByTwo_24 : decode cX5_divideByTwo 24 = .ok (.idiv, 1) := by decide +kernel
theorem dX5_divideByTwo_25 : decode cX5_divideByTwo 25 = .ok (.putfield 19, 3) := by decide +kernel
theorem dX5_divideByTwo_28 : decode cX5_divideByTwo 28 = .ok (.aload_n 0, 1) := by decide +kernel
theorem dX5_divideByTwo_29 : decode cX5_divideByTwo 29 = .ok (.dup, 1) := by decide +kernel
theorem dX5_divideByTwo_30 : decode cX5_divideByTwo 30 = .ok (.getfield 22, 3) := by decide +kernel
theorem dX5_divideByTwo_33 : decode cX5_divideByTwo 33 = .ok (.iconst 2, 1) := by decide +kernel
theorem dX5_divideByTwo_34 : decode cX5_divideByTwo 34 = .ok (.idiv, 1) := by decide +kernel
theorem dX5_divideByTwo_35 : decode cX5_divideByTwo 35 = .ok (.putfield 22, 3) := by decide +kernel
theorem dX5_divideByTwo_38 : decode cX5_divideByTwo 38 = .ok (.return_, 1) := by decide +kernel
theorem dX5_divideByFive_0 : decode cX5_divideByFive 0 = .ok (.aload_n 0, 1) := by decide +kernel
theorem dX5_divideByFive_1 : decode cX5_divideByFive 1 = .ok (.getfield 19, 3) := by decide +kernel
theorem dX5_divideByFive_4 : decode cX5_divideByFive 4 = .ok (.iconst 5, 1) := by decide +kernel
theorem dX5_divideByFive_5 : decode cX5_divideByFive 5 = .ok (.irem, 1) := by decide +kernel
theorem dX5_divideByFive_6 : decode cX5_divideByFive 6 = .ok (.ifCond .ne 32, 3) := by decide +kernel
theorem dX5_divideByFive_9 : decode cX5_divideByFive 9 = .ok (.aload_n 0, 1) := by decide +kernel
theorem dX5_divideByFive_10 : decode cX5_divideByFive 10 = .ok (.getfield 22, 3) := by decide +kernel
theorem dX5_divideByFive_13 : decode cX5_divideByFive 13 = .ok (.iconst 5, 1) := by decide +kernel
theorem dX5_divideByFive_14 : decode cX5_divideByFive 14 = .ok (.irem, 1) := by decide +kernel
theorem dX5_divideByFive_15 : decode cX5_divideByFive 15 = .ok (.ifCond .ne 23, 3) := by decide +kernel
theorem dX5_divideByFive_18 : decode cX5_divideByFive 18 = .ok (.aload_n 0, 1) := by decide +kernel
theorem dX5_divideByFive_19 : decode cX5_divideByFive 19 = .ok (.dup, 1) := by decide +kernel
theorem dX5_divideByFive_20 : decode cX5_divideByFive 20 = .ok (.getfield 19, 3) := by decide +kernel
theorem dX5_divideByFive_23 : decode cX5_divideByFive 23 = .ok (.iconst 5, 1) := by decide +kernel
theorem dX5_divideByFive_24 : decode cX5_divideByFive 24 = .ok (.idiv, 1) := by decide +kernel
theorem dX5_divideByFive_25 : decode cX5_divideByFive 25 = .ok (.putfield 19, 3) := by decide +kernel
theorem dX5_divideByFive_28 : decode cX5_divideByFive 28 = .ok (.aload_n 0, 1) := by decide +kernel
theorem dX5_divideByFive_29 : decode cX5_divideByFive 29 = .ok (.dup, 1) := by decide +kernel
theorem dX5_divideByFive_30 : decode cX5_divideByFive 30 = .ok (.getfield 22, 3) := by decide +kernel
theorem dX5_divideByFive_33 : decode cX5_divideByFive 33 = .ok (.iconst 5, 1) := by decide +kernel
theorem dX5_divideByFive_34 : decode cX5_divideByFive 34 = .ok (.idiv, 1) := by decide +kernel
theorem dX5_divideByFive_35 : decode cX5_divideByFive 35 = .ok (.putfield 22, 3) := by decide +kernel
theorem dX5_divideByFive_38 : decode cX5_divideByFive 38 = .ok (.return_, 1) := by decide +kernel
theorem dX6_init_0 : decode cX6_init 0 = .ok (.aload_n 0, 1) := by decide +kernel
theorem dX6_init_1 : decode cX6_init 1 = .ok (.invokespecial 3, 3) := by decide +kernel
theorem dX6_init_4 : decode cX6_init 4 = .ok (.aload_n 0, 1) := by decide +kernel
theorem dX6_init_5 : decode cX6_init 5 = .ok (.new 9, 3) := by decide +kernel
theorem dX6_init_8 : decode cX6_init 8 = .ok (.dup, 1) := by decide +kernel
theorem dX6_init_9 : decode cX6_init 9 = .ok (.invokespecial 11, 3) := by decide +kernel
theorem dX6_init_12 : decode cX6_init 12 = .ok (.putfield 12, 3) := by decide +kernel
theorem dX6_init_15 : decode cX6_init 15 = .ok (.aload_n 0, 1) := by decide +kernel
theorem dX6_init_16 : decode cX6_init 16 = .ok (.iconst 0, 1) := by decide +kernel
theorem dX6_init_17 : decode cX6_init 17 = .ok (.putfield 18, 3) := by decide +kernel
theorem dX6_init_20 : decode cX6_init 20 = .ok (.return_, 1) := by decide +kernel
theorem dX6_readInto_0 : decode cX6_readInto 0 = .ok (.aload_n 0, 1) := by decide +kernel
theorem dX6_readInto_1 : decode cX6_readInto 1 = .ok (.iconst 0, 1) := by decide +kernel
theorem dX6_readInto_2 : decode cX6_readInto 2 = .ok (.putfield 18, 3) := by decide +kernel
theorem dX6_readInto_5 : decode cX6_readInto 5 = .ok (.aload_n 1, 1) := by decide +kernel
theorem dX6_readInto_6 : decode cX6_readInto 6 = .ok (.invokevirtual 22, 3) := by decide +kernel
theorem dX6_readInto_9 : decode cX6_readInto 9 = .ok (.aload_n 0, 1) := by decide +kernel
theorem dX6_readInto_10 : decode cX6_readInto 10 = .ok (.getfield 12, 3) := by decide +kernel
theorem dX6_readInto_13 : decode cX6_readInto 13 = .ok (.invokevirtual 27, 3) := by decide +kernel
theorem dX6_readInto_16 : decode cX6_readInto 16 = .ok (.aload_n 0, 1) := by decide +kernel
theorem dX6_readInto_17 : decode cX6_readInto 17 = .ok (.aload_n 1, 1) := by decide +kernel
theorem dX6_readInto_18 : decode cX6_readInto 18 = .ok (.invokevirtual 30, 3) := by decide +kernel
theorem dX6_readInto_21 : decode cX6_readInto 21 = .ok (.iconst 0, 1) := by decide +kernel
theorem dX6_readInto_22 : decode cX6_readInto 22 = .ok (.istore_n 2, 1) := by decide +kernel
theorem dX6_readInto_23 : decode cX6_readInto 23 = .ok (.iload_n 2, 1) := by decide +kernel
theorem dX6_readInto_24 : decode cX6_readInto 24 = .ok (.iconst 5, 1) := by decide +kernel
theorem dX6_readInto_25 : decode cX6_readInto 25 = .ok (.if_icmp .gt 33, 3) := by decide +kernel
theorem dX6_readInto_28 : decode cX6_readInto 28 = .ok (.aload_n 0, 1) := by decide +kernel
theorem dX6_readInto_29 : decode cX6_readInto 29 = .ok (.getfield 18, 3) := by decide +kernel
theorem dX6_readInto_32 : decode cX6_readInto 32 = .ok (.ifCond .ne 26, 3) := by decide +kernel
theorem dX6_readInto_35 : decode cX6_readInto 35 = .ok (.aload_n 0, 1) := by decide +kernel
theorem dX6_readInto_36 : decode cX6_readInto 36 = .ok (.getfield 12, 3) := by decide +kernel
theorem dX6_readInto_39 : decode cX6_readInto 39 = .ok (.ldc 34, 2) := by decide +kernel
theorem dX6_readInto_41 : decode cX6_readInto 41 = .ok (.invokevirtual 36, 3) := by decide +kernel
theorem dX6_readInto_44 : decode cX6_readInto 44 = .ok (.ifCond .eq 14, 3) := by decide +kernel
theorem dX6_readInto_47 : decode cX6_readInto 47 = .ok (.aload_n 0, 1) := by decide +kernel
theorem dX6_readInto_48 : decode cX6_readInto 48 = .ok (.aload_n 1, 1) := by decide +kernel
theorem dX6_readInto_49 : decode cX6_readInto 49 = .ok (.invokevirtual 40, 3) := by decide +kernel
theorem dX6_readInto_52 : decode cX6_readInto 52 = .ok (.iinc 2 1, 3) := by decide +kernel
theorem dX6_readInto_55 : decode cX6_readInto 55 = .ok (.goto (-32), 3) := by decide +kernel
theorem dX6_readInto_58 : decode cX6_readInto 58 = .ok (.iconst 0, 1) := by decide +kernel
theorem dX6_readInto_59 : decode cX6_readInto 59 = .ok (.istore_n 2, 1) := by decide +kernel
theorem dX6_readInto_60 : decode cX6_readInto 60 = .ok (.iload_n 2, 1) := by decide +kernel
theorem dX6_readInto_61 : decode cX6_readInto 61 = .ok (.bipush 9, 2) := by decide +kernel
theorem dX6_readInto_63 : decode cX6_readInto 63 = .ok (.if_icmp .gt 33, 3) := by decide +kernel
theorem dX6_readInto_66 : decode cX6_readInto 66 = .ok (.aload_n 0, 1) := by decide +kernel
theorem dX6_readInto_67 : decode cX6_readInto 67 = .ok (.getfield 18, 3) := by decide +kernel
theorem dX6_readInto_70 : decode cX6_readInto 70 = .ok (.ifCond .ne 26, 3) := by decide +kernel
theorem dX6_readInto_73 : decode cX6_readInto 73 = .ok (.aload_n 0, 1) := by decide +kernel
theorem dX6_readInto_74 : decode cX6_readInto 74 = .ok (.getfield 12, 3) := by decide +kernel
theorem dX6_readInto_77 : decode cX6_readInto 77 = .ok (.ldc 43, 2) := by decide +kernel
theorem dX6_readInto_79 : decode cX6_readInto 79 = .ok (.invokevirtual 36, 3) := by decide +kernel
theorem dX6_readInto_82 : decode cX6_readInto 82 = .ok (.ifCond .eq 14, 3) := by decide +kernel
theorem dX6_readInto_85 : decode cX6_readInto 85 = .ok (.aload_n 0, 1) := by decide +kernel
theorem dX6_readInto_86 : decode cX6_readInto 86 = .ok (.aload_n 1, 1) := by decide +kernel
theorem dX6_readInto_87 : decode cX6_readInto 87 = .ok (.invokevirtual 45, 3) := by decide +kernel
theorem dX6_readInto_90 : decode cX6_readInto 90 = .ok (.iinc 2 1, 3) := by decide +kernel
theorem dX6_readInto_93 : decode cX6_readInto 93 = .ok (.goto (-33), 3) := by decide +kernel
theorem dX6_readInto_96 : decode cX6_readInto 96 = .ok (.aload_n 0, 1) := by decide +kernel
theorem dX6_readInto_97 : decode cX6_readInto 97 = .ok (.getfield 18, 3) := by decide +kernel
theorem dX6_readInto_100 : decode cX6_readInto 100 = .ok (.ifCond .ne 18, 3) := by decide +kernel
theorem dX6_readInto_103 : decode cX6_readInto 103 = .ok (.aload_n 0, 1) := by decide +kernel
theorem dX6_readInto_104 : decode cX6_readInto 104 = .ok (.getfield 12, 3) := by decide +kernel
theorem dX6_readInto_107 : decode cX6_readInto 107 = .ok (.getfield 48, 3) := by decide +kernel
theorem dX6_readInto_110 : decode cX6_readInto 110 = .ok (.ifCond .eq 8, 3) := by decide +kernel
theorem dX6_readInto_113 : decode cX6_readInto 113 = .ok (.aload_n 0, 1) := by decide +kernel
theorem dX6_readInto_114 : decode cX6_readInto 114 = .ok (.iconst 1, 1) := by decide +kernel
theorem dX6_readInto_115 : decode cX6_readInto 115 = .ok (.putfield 18, 3) := by decide +kernel
theorem dX6_readInto_118 : decode cX6_readInto 118 = .ok (.return_, 1) := by decide +kernel
theorem dX6_readLaw_0 : decode cX6_readLaw 0 = .ok (.aload_n 0, 1) := by decide +kernel
theorem dX6_readLaw_1 : decode cX6_readLaw 1 = .ok (.getfield 12, 3) := by decide +kernel
theorem dX6_readLaw_4 : decode cX6_readLaw 4 = .ok (.ldc 51, 2) := by decide +kernel
theorem dX6_readLaw_6 : decode cX6_readLaw 6 = .ok (.invokevirtual 36, 3) := by decide +kernel
theorem dX6_readLaw_9 : decode cX6_readLaw 9 = .ok (.ifCond .ne 9, 3) := by decide +kernel
theorem dX6_readLaw_12 : decode cX6_readLaw 12 = .ok (.aload_n 0, 1) := by decide +kernel
theorem dX6_readLaw_13 : decode cX6_readLaw 13 = .ok (.iconst 1, 1) := by decide +kernel
theorem dX6_readLaw_14 : decode cX6_readLaw 14 = .ok (.putfield 18, 3) := by decide +kernel
theorem dX6_readLaw_17 : decode cX6_readLaw 17 = .ok (.return_, 1) := by decide +kernel
theorem dX6_readLaw_18 : decode cX6_readLaw 18 = .ok (.aload_n 0, 1) := by decide +kernel
theorem dX6_readLaw_19 : decode cX6_readLaw 19 = .ok (.getfield 12, 3) := by decide +kernel
theorem dX6_readLaw_22 : decode cX6_readLaw 22 = .ok (.invokevirtual 53, 3) := by decide +kernel
theorem dX6_readLaw_25 : decode cX6_readLaw 25 = .ok (.aload_n 1, 1) := by decide +kernel
theorem dX6_readLaw_26 : decode cX6_readLaw 26 = .ok (.aload_n 0, 1) := by decide +kernel
theorem dX6_readLaw_27 : decode cX6_readLaw 27 = .ok (.iconst 1, 1) := by decide +kernel
theorem dX6_readLaw_28 : decode cX6_readLaw 28 = .ok (.bipush 50, 2) := by decide +kernel
theorem dX6_readLaw_30 : decode cX6_readLaw 30 = .ok (.invokevirtual 56, 3) := by decide +kernel
theorem dX6_readLaw_33 : decode cX6_readLaw 33 = .ok (.putfield 60, 3) := by decide +kernel
theorem dX6_readLaw_36 : decode cX6_readLaw 36 = .ok (.aload_n 1, 1) := by decide +kernel
theorem dX6_readLaw_37 : decode cX6_readLaw 37 = .ok (.aload_n 0, 1) := by decide +kernel
theorem dX6_readLaw_38 : decode cX6_readLaw 38 = .ok (.iconst 0, 1) := by decide +kernel
theorem dX6_readLaw_39 : decode cX6_readLaw 39 = .ok (.bipush 20, 2) := by decide +kernel
theorem dX6_readLaw_41 : decode cX6_readLaw 41 = .ok (.invokevirtual 56, 3) := by decide +kernel
theorem dX6_readLaw_44 : decode cX6_readLaw 44 = .ok (.putfield 63, 3) := by decide +kernel
theorem dX6_readLaw_47 : decode cX6_readLaw 47 = .ok (.aload_n 0, 1) := by decide +kernel
theorem dX6_readLaw_48 : decode cX6_readLaw 48 = .ok (.invokevirtual 66, 3) := by decide +kernel
theorem dX6_readLaw_51 : decode cX6_readLaw 51 = .ok (.return_, 1) := by decide +kernel
theorem dX6_readSpeaker_0 : decode cX6_readSpeaker 0 = .ok (.aload_n 1, 1) := by decide +kernel
theorem dX6_readSpeaker_1 : decode cX6_readSpeaker 1 = .ok (.getfield 69, 3) := by decide +kernel
theorem dX6_readSpeaker_4 : decode cX6_readSpeaker 4 = .ok (.iconst 5, 1) := by decide +kernel
theorem dX6_readSpeaker_5 : decode cX6_readSpeaker 5 = .ok (.if_icmp .lt 9, 3) := by decide +kernel
theorem dX6_readSpeaker_8 : decode cX6_readSpeaker 8 = .ok (.aload_n 0, 1) := by decide +kernel
theorem dX6_readSpeaker_9 : decode cX6_readSpeaker 9 = .ok (.iconst 3, 1) := by decide +kernel
theorem dX6_readSpeaker_10 : decode cX6_readSpeaker 10 = .ok (.putfield 18, 3) := by decide +kernel
theorem dX6_readSpeaker_13 : decode cX6_readSpeaker 13 = .ok (.return_, 1) := by decide +kernel
theorem dX6_readSpeaker_14 : decode cX6_readSpeaker 14 = .ok (.aload_n 0, 1) := by decide +kernel
theorem dX6_readSpeaker_15 : decode cX6_readSpeaker 15 = .ok (.getfield 12, 3) := by decide +kernel
theorem dX6_readSpeaker_18 : decode cX6_readSpeaker 18 = .ok (.invokevirtual 53, 3) := by decide +kernel
theorem dX6_readSpeaker_21 : decode cX6_readSpeaker 21 = .ok (.aload_n 1, 1) := by decide +kernel
theorem dX6_readSpeaker_22 : decode cX6_readSpeaker 22 = .ok (.getfield 72, 3) := by decide +kernel
theorem dX6_readSpeaker_25 : decode cX6_readSpeaker 25 = .ok (.aload_n 1, 1) := by decide +kernel
theorem dX6_readSpeaker_26 : decode cX6_readSpeaker 26 = .ok (.getfield 69, 3) := by decide +kernel
theorem dX6_readSpeaker_29 : decode cX6_readSpeaker 29 = .ok (.aload_n 0, 1) := by decide +kernel
theorem dX6_readSpeaker_30 : decode cX6_readSpeaker 30 = .ok (.iconst 0, 1) := by decide +kernel
theorem dX6_readSpeaker_31 : decode cX6_readSpeaker 31 = .ok (.bipush 10, 2) := by decide +kernel
theorem dX6_readSpeaker_33 : decode cX6_readSpeaker 33 = .ok (.invokevirtual 56, 3) := by decide +kernel
theorem dX6_readSpeaker_36 : decode cX6_readSpeaker 36 = .ok (.iastore, 1) := by decide +kernel
theorem dX6_readSpeaker_37 : decode cX6_readSpeaker 37 = .ok (.aload_n 1, 1) := by decide +kernel
theorem dX6_readSpeaker_38 : decode cX6_readSpeaker 38 = .ok (.getfield 76, 3) := by decide +kernel
theorem dX6_readSpeaker_41 : decode cX6_readSpeaker 41 = .ok (.aload_n 1, 1) := by decide +kernel
theorem dX6_readSpeaker_42 : decode cX6_readSpeaker 42 = .ok (.getfield 69, 3) := by decide +kernel
theorem dX6_readSpeaker_45 : decode cX6_readSpeaker 45 = .ok (.aload_n 0, 1) := by decide +kernel
theorem dX6_readSpeaker_46 : decode cX6_readSpeaker 46 = .ok (.iconst 0, 1) := by decide +kernel
theorem dX6_readSpeaker_47 : decode cX6_readSpeaker 47 = .ok (.bipush 99, 2) := by decide +kernel
theorem dX6_readSpeaker_49 : decode cX6_readSpeaker 49 = .ok (.invokevirtual 56, 3) := by decide +kernel
theorem dX6_readSpeaker_52 : decode cX6_readSpeaker 52 = .ok (.iastore, 1) := by decide +kernel
theorem dX6_readSpeaker_53 : decode cX6_readSpeaker 53 = .ok (.aload_n 0, 1) := by decide +kernel
theorem dX6_readSpeaker_54 : decode cX6_readSpeaker 54 = .ok (.invokevirtual 66, 3) := by decide +kernel
theorem dX6_readSpeaker_57 : decode cX6_readSpeaker 57 = .ok (.aload_n 1, 1) := by decide +kernel
theorem dX6_readSpeaker_58 : decode cX6_readSpeaker 58 = .ok (.dup, 1) := by decide +kernel
theorem dX6_readSpeaker_59 : decode cX6_readSpeaker 59 = .ok (.getfield 69, 3) := by decide +kernel
theorem dX6_readSpeaker_62 : decode cX6_readSpeaker 62 = .ok (.iconst 1, 1) := by decide +kernel
theorem dX6_readSpeaker_63 : decode cX6_readSpeaker 63 = .ok (.iadd, 1) := by decide +kernel
theorem dX6_readSpeaker_64 : decode cX6_readSpeaker 64 = .ok (.putfield 69, 3) := by decide +kernel
theorem dX6_readSpeaker_67 : decode cX6_readSpeaker 67 = .ok (.return_, 1) := by decide +kernel
theorem dX6_readYarn_0 : decode cX6_readYarn 0 = .ok (.aload_n 1, 1) := by decide +kernel
theorem dX6_readYarn_1 : decode cX6_readYarn 1 = .ok (.getfield 79, 3) := by decide +kernel
theorem dX6_readYarn_4 : decode cX6_readYarn 4 = .ok (.bipush 9, 2) := by decide +kernel
theorem dX6_readYarn_6 : decode cX6_readYarn 6 = .ok (.if_icmp .lt 9, 3) := by decide +kernel
theorem dX6_readYarn_9 : decode cX6_readYarn 9 = .ok (.aload_n 0, 1) := by decide +kernel
theorem dX6_readYarn_10 : decode cX6_readYarn 10 = .ok (.iconst 3, 1) := by decide +kernel
theorem dX6_readYarn_11 : decode cX6_readYarn 11 = .ok (.putfield 18, 3) := by decide +kernel
theorem dX6_readYarn_14 : decode cX6_readYarn 14 = .ok (.return_, 1) := by decide +kernel
theorem dX6_readYarn_15 : decode cX6_readYarn 15 = .ok (.aload_n 0, 1) := by decide +kernel
theorem dX6_readYarn_16 : decode cX6_readYarn 16 = .ok (.getfield 12, 3) := by decide +kernel
theorem dX6_readYarn_19 : decode cX6_readYarn 19 = .ok (.invokevirtual 53, 3) := by decide +kernel
theorem dX6_readYarn_22 : decode cX6_readYarn 22 = .ok (.aload_n 1, 1) := by decide +kernel
theorem dX6_readYarn_23 : decode cX6_readYarn 23 = .ok (.getfield 82, 3) := by decide +kernel
theorem dX6_readYarn_26 : decode cX6_readYarn 26 = .ok (.aload_n 1, 1) := by decide +kernel
theorem dX6_readYarn_27 : decode cX6_readYarn 27 = .ok (.getfield 79, 3) := by decide +kernel
theorem dX6_readYarn_30 : decode cX6_readYarn 30 = .ok (.aload_n 0, 1) := by decide +kernel
theorem dX6_readYarn_31 : decode cX6_readYarn 31 = .ok (.invokevirtual 85, 3) := by decide +kernel
theorem dX6_readYarn_34 : decode cX6_readYarn 34 = .ok (.iastore, 1) := by decide +kernel
theorem dX6_readYarn_35 : decode cX6_readYarn 35 = .ok (.aload_n 1, 1) := by decide +kernel
theorem dX6_readYarn_36 : decode cX6_readYarn 36 = .ok (.getfield 89, 3) := by decide +kernel
theorem dX6_readYarn_39 : decode cX6_readYarn 39 = .ok (.aload_n 1, 1) := by decide +kernel
theorem dX6_readYarn_40 : decode cX6_readYarn 40 = .ok (.getfield 79, 3) := by decide +kernel
theorem dX6_readYarn_43 : decode cX6_readYarn 43 = .ok (.aload_n 0, 1) := by decide +kernel
theorem dX6_readYarn_44 : decode cX6_readYarn 44 = .ok (.iconst 0, 1) := by decide +kernel
theorem dX6_readYarn_45 : decode cX6_readYarn 45 = .ok (.aload_n 1, 1) := by decide +kernel
theorem dX6_readYarn_46 : decode cX6_readYarn 46 = .ok (.getfield 69, 3) := by decide +kernel
theorem dX6_readYarn_49 : decode cX6_readYarn 49 = .ok (.iconst 1, 1) := by decide +kernel
theorem dX6_readYarn_50 : decode cX6_readYarn 50 = .ok (.isub, 1) := by decide +kernel
theorem dX6_readYarn_51 : decode cX6_readYarn 51 = .ok (.invokevirtual 56, 3) := by decide +kernel
theorem dX6_readYarn_54 : decode cX6_readYarn 54 = .ok (.iastore, 1) := by decide +kernel
theorem dX6_readYarn_55 : decode cX6_readYarn 55 = .ok (.aload_n 1, 1) := by decide +kernel
theorem dX6_readYarn_56 : decode cX6_readYarn 56 = .ok (.getfield 91, 3) := by decide +kernel
theorem dX6_readYarn_59 : decode cX6_readYarn 59 = .ok (.aload_n 1, 1) := by decide +kernel
theorem dX6_readYarn_60 : decode cX6_readYarn 60 = .ok (.getfield 79, 3) := by decide +kernel
theorem dX6_readYarn_63 : decode cX6_readYarn 63 = .ok (.aload_n 0, 1) := by decide +kernel
theorem dX6_readYarn_64 : decode cX6_readYarn 64 = .ok (.iconst 1, 1) := by decide +kernel
theorem dX6_readYarn_65 : decode cX6_readYarn 65 = .ok (.bipush 9, 2) := by decide +kernel
theorem dX6_readYarn_67 : decode cX6_readYarn 67 = .ok (.invokevirtual 56, 3) := by decide +kernel
theorem dX6_readYarn_70 : decode cX6_readYarn 70 = .ok (.iastore, 1) := by decide +kernel
theorem dX6_readYarn_71 : decode cX6_readYarn 71 = .ok (.aload_n 0, 1) := by decide +kernel
theorem dX6_readYarn_72 : decode cX6_readYarn 72 = .ok (.invokevirtual 66, 3) := by decide +kernel
theorem dX6_readYarn_75 : decode cX6_readYarn 75 = .ok (.aload_n 1, 1) := by decide +kernel
theorem dX6_readYarn_76 : decode cX6_readYarn 76 = .ok (.dup, 1) := by decide +kernel
theorem dX6_readYarn_77 : decode cX6_readYarn 77 = .ok (.getfield 79, 3) := by decide +kernel
theorem dX6_readYarn_80 : decode cX6_readYarn 80 = .ok (.iconst 1, 1) := by decide +kernel
theorem dX6_readYarn_81 : decode cX6_readYarn 81 = .ok (.iadd, 1) := by decide +kernel
theorem dX6_readYarn_82 : decode cX6_readYarn 82 = .ok (.putfield 79, 3) := by decide +kernel
theorem dX6_readYarn_85 : decode cX6_readYarn 85 = .ok (.return_, 1) := by decide +kernel
theorem dX6_takeSort_0 : decode cX6_takeSort 0 = .ok (.aload_n 0, 1) := by decide +kernel
theorem dX6_takeSort_1 : decode cX6_takeSort 1 = .ok (.getfield 12, 3) := by decide +kernel
theorem dX6_takeSort_4 : decode cX6_takeSort 4 = .ok (.ldc 94, 2) := by decide +kernel
theorem dX6_takeSort_6 : decode cX6_takeSort 6 = .ok (.invokevirtual 36, 3) := by decide +kernel
theorem dX6_takeSort_9 : decode cX6_takeSort 9 = .ok (.ifCond .eq 7, 3) := by decide +kernel
theorem dX6_takeSort_12 : decode cX6_takeSort 12 = .ok (.iconst 1, 1) := by decide +kernel
theorem dX6_takeSort_13 : decode cX6_takeSort 13 = .ok (.goto 68, 3) := by decide +kernel
theorem dX6_takeSort_16 : decode cX6_takeSort 16 = .ok (.aload_n 0, 1) := by decide +kernel
theorem dX6_takeSort_17 : decode cX6_takeSort 17 = .ok (.getfield 12, 3) := by decide +kernel
theorem dX6_takeSort_20 : decode cX6_takeSort 20 = .ok (.ldc 98, 2) := by decide +kernel
theorem dX6_takeSort_22 : decode cX6_takeSort 22 = .ok (.invokevirtual 36, 3) := by decide +kernel
theorem dX6_takeSort_25 : decode cX6_takeSort 25 = .ok (.ifCond .eq 7, 3) := by decide +kernel
theorem dX6_takeSort_28 : decode cX6_takeSort 28 = .ok (.iconst 2, 1) := by decide +kernel
theorem dX6_takeSort_29 : decode cX6_takeSort 29 = .ok (.goto 52, 3) := by decide +kernel
theorem dX6_takeSort_32 : decode cX6_takeSort 32 = .ok (.aload_n 0, 1) := by decide +kernel
theorem dX6_takeSort_33 : decode cX6_takeSort 33 = .ok (.getfield 12, 3) := by decide +kernel
theorem dX6_takeSort_36 : decode cX6_takeSort 36 = .ok (.ldc 100, 2) := by decide +kernel
theorem dX6_takeSort_38 : decode cX6_takeSort 38 = .ok (.invokevirtual 36, 3) := by decide +kernel
theorem dX6_takeSort_41 : decode cX6_takeSort 41 = .ok (.ifCond .eq 7, 3) := by decide +kernel
theorem dX6_takeSort_44 : decode cX6_takeSort 44 = .ok (.iconst 3, 1) := by decide +kernel
theorem dX6_takeSort_45 : decode cX6_takeSort 45 = .ok (.goto 36, 3) := by decide +kernel
theorem dX6_takeSort_48 : decode cX6_takeSort 48 = .ok (.aload_n 0, 1) := by decide +kernel
theorem dX6_takeSort_49 : decode cX6_takeSort 49 = .ok (.getfield 12, 3) := by decide +kernel
theorem dX6_takeSort_52 : decode cX6_takeSort 52 = .ok (.ldc 102, 2) := by decide +kernel
theorem dX6_takeSort_54 : decode cX6_takeSort 54 = .ok (.invokevirtual 36, 3) := by decide +kernel
theorem dX6_takeSort_57 : decode cX6_takeSort 57 = .ok (.ifCond .eq 7, 3) := by decide +kernel
theorem dX6_takeSort_60 : decode cX6_takeSort 60 = .ok (.iconst 4, 1) := by decide +kernel
theorem dX6_takeSort_61 : decode cX6_takeSort 61 = .ok (.goto 20, 3) := by decide +kernel
theorem dX6_takeSort_64 : decode cX6_takeSort 64 = .ok (.aload_n 0, 1) := by decide +kernel
theorem dX6_takeSort_65 : decode cX6_takeSort 65 = .ok (.getfield 12, 3) := by decide +kernel
theorem dX6_takeSort_68 : decode cX6_takeSort 68 = .ok (.ldc 104, 2) := by decide +kernel
theorem dX6_takeSort_70 : decode cX6_takeSort 70 = .ok (.invokevirtual 36, 3) := by decide +kernel
theorem dX6_takeSort_73 : decode cX6_takeSort 73 = .ok (.ifCond .eq 7, 3) := by decide +kernel
theorem dX6_takeSort_76 : decode cX6_takeSort 76 = .ok (.iconst 5, 1) := by decide +kernel
theorem dX6_takeSort_77 : decode cX6_takeSort 77 = .ok (.goto 4, 3) := by decide +kernel
theorem dX6_takeSort_80 : decode cX6_takeSort 80 = .ok (.iconst 0, 1) := by decide +kernel
theorem dX6_takeSort_81 : decode cX6_takeSort 81 = .ok (.istore_n 1, 1) := by decide +kernel
theorem dX6_takeSort_82 : decode cX6_takeSort 82 = .ok (.iload_n 1, 1) := by decide +kernel
theorem dX6_takeSort_83 : decode cX6_takeSort 83 = .ok (.ifCond .ne 11, 3) := by decide +kernel
theorem dX6_takeSort_86 : decode cX6_takeSort 86 = .ok (.aload_n 0, 1) := by decide +kernel
theorem dX6_takeSort_87 : decode cX6_takeSort 87 = .ok (.iconst 1, 1) := by decide +kernel
theorem dX6_takeSort_88 : decode cX6_takeSort 88 = .ok (.putfield 18, 3) := by decide +kernel
theorem dX6_takeSort_91 : decode cX6_takeSort 91 = .ok (.goto 10, 3) := by decide +kernel
theorem dX6_takeSort_94 : decode cX6_takeSort 94 = .ok (.aload_n 0, 1) := by decide +kernel
theorem dX6_takeSort_95 : decode cX6_takeSort 95 = .ok (.getfield 12, 3) := by decide +kernel
theorem dX6_takeSort_98 : decode cX6_takeSort 98 = .ok (.invokevirtual 53, 3) := by decide +kernel
theorem dX6_takeSort_101 : decode cX6_takeSort 101 = .ok (.iload_n 1, 1) := by decide +kernel
theorem dX6_takeSort_102 : decode cX6_takeSort 102 = .ok (.ireturn, 1) := by decide +kernel
theorem dX6_takeNumber_0 : decode cX6_takeNumber 0 = .ok (.aload_n 0, 1) := by decide +kernel
theorem dX6_takeNumber_1 : decode cX6_takeNumber 1 = .ok (.getfield 18, 3) := by decide +kernel
theorem dX6_takeNumber_4 : decode cX6_takeNumber 4 = .ok (.ifCond .eq 5, 3) := by decide +kernel
theorem dX6_takeNumber_7 : decode cX6_takeNumber 7 = .ok (.iconst 0, 1) := by decide +kernel
theorem dX6_takeNumber_8 : decode cX6_takeNumber 8 = .ok (.ireturn, 1) := by decide +kernel
theorem dX6_takeNumber_9 : decode cX6_takeNumber 9 = .ok (.aload_n 0, 1) := by decide +kernel
theorem dX6_takeNumber_10 : decode cX6_takeNumber 10 = .ok (.getfield 12, 3) := by decide +kernel
theorem dX6_takeNumber_13 : decode cX6_takeNumber 13 = .ok (.getfield 48, 3) := by decide +kernel
theorem dX6_takeNumber_16 : decode cX6_takeNumber 16 = .ok (.iconst 2, 1) := by decide +kernel
theorem dX6_takeNumber_17 : decode cX6_takeNumber 17 = .ok (.if_icmp .eq 10, 3) := by decide +kernel
theorem dX6_takeNumber_20 : decode cX6_takeNumber 20 = .ok (.aload_n 0, 1) := by decide +kernel
theorem dX6_takeNumber_21 : decode cX6_takeNumber 21 = .ok (.iconst 1, 1) := by decide +kernel
theorem dX6_takeNumber_22 : decode cX6_takeNumber 22 = .ok (.putfield 18, 3) := by decide +kernel
theorem dX6_takeNumber_25 : decode cX6_takeNumber 25 = .ok (.iconst 0, 1) := by decide +kernel
theorem dX6_takeNumber_26 : decode cX6_takeNumber 26 = .ok (.ireturn, 1) := by decide +kernel
theorem dX6_takeNumber_27 : decode cX6_takeNumber 27 = .ok (.aload_n 0, 1) := by decide +kernel
theorem dX6_takeNumber_28 : decode cX6_takeNumber 28 = .ok (.getfield 12, 3) := by decide +kernel
theorem dX6_takeNumber_31 : decode cX6_takeNumber 31 = .ok (.getfield 106, 3) := by decide +kernel
theorem dX6_takeNumber_34 : decode cX6_takeNumber 34 = .ok (.istore_n 3, 1) := by decide +kernel
theorem dX6_takeNumber_35 : decode cX6_takeNumber 35 = .ok (.iload_n 3, 1) := by decide +kernel
theorem dX6_takeNumber_36 : decode cX6_takeNumber 36 = .ok (.iload_n 1, 1) := by decide +kernel
theorem dX6_takeNumber_37 : decode cX6_takeNumber 37 = .ok (.if_icmp .lt 8, 3) := by decide +kernel
theorem dX6_takeNumber_40 : decode cX6_takeNumber 40 = .ok (.iload_n 3, 1) := by decide +kernel
theorem dX6_takeNumber_41 : decode cX6_takeNumber 41 = .ok (.iload_n 2, 1) := by decide +kernel
theorem dX6_takeNumber_42 : decode cX6_takeNumber 42 = .ok (.if_icmp .le 10, 3) := by decide +kernel
theorem dX6_takeNumber_45 : decode cX6_takeNumber 45 = .ok (.aload_n 0, 1) := by decide +kernel
theorem dX6_takeNumber_46 : decode cX6_takeNumber 46 = .ok (.iconst 2, 1) := by decide +kernel
theorem dX6_takeNumber_47 : decode cX6_takeNumber 47 = .ok (.putfield 18, 3) := by decide +kernel
theorem dX6_takeNumber_50 : decode cX6_takeNumber 50 = .ok (.iconst 0, 1) := by decide +kernel
theorem dX6_takeNumber_51 : decode cX6_takeNumber 51 = .ok (.ireturn, 1) := by decide +kernel
theorem dX6_takeNumber_52 : decode cX6_takeNumber 52 = .ok (.aload_n 0, 1) := by decide +kernel
theorem dX6_takeNumber_53 : decode cX6_takeNumber 53 = .ok (.getfield 12, 3) := by decide +kernel
theorem dX6_takeNumber_56 : decode cX6_takeNumber 56 = .ok (.invokevirtual 53, 3) := by decide +kernel
theorem dX6_takeNumber_59 : decode cX6_takeNumber 59 = .ok (.iload_n 3, 1) := by decide +kernel
theorem dX6_takeNumber_60 : decode cX6_takeNumber 60 = .ok (.ireturn, 1) := by decide +kernel
theorem dX6_takeSign_0 : decode cX6_takeSign 0 = .ok (.aload_n 0, 1) := by decide +kernel
theorem dX6_takeSign_1 : decode cX6_takeSign 1 = .ok (.getfield 18, 3) := by decide +kernel
theorem dX6_takeSign_4 : decode cX6_takeSign 4 = .ok (.ifCond .eq 4, 3) := by decide +kernel
theorem dX6_takeSign_7 : decode cX6_takeSign 7 = .ok (.return_, 1) := by decide +kernel
theorem dX6_takeSign_8 : decode cX6_takeSign 8 = .ok (.aload_n 0, 1) := by decide +kernel
theorem dX6_takeSign_9 : decode cX6_takeSign 9 = .ok (.getfield 12, 3) := by decide +kernel
theorem dX6_takeSign_12 : decode cX6_takeSign 12 = .ok (.getfield 48, 3) := by decide +kernel
theorem dX6_takeSign_15 : decode cX6_takeSign 15 = .ok (.iconst 3, 1) := by decide +kernel
theorem dX6_takeSign_16 : decode cX6_takeSign 16 = .ok (.if_icmp .eq 9, 3) := by decide +kernel
theorem dX6_takeSign_19 : decode cX6_takeSign 19 = .ok (.aload_n 0, 1) := by decide +kernel
theorem dX6_takeSign_20 : decode cX6_takeSign 20 = .ok (.iconst 1, 1) := by decide +kernel
theorem dX6_takeSign_21 : decode cX6_takeSign 21 = .ok (.putfield 18, 3) := by decide +kernel
theorem dX6_takeSign_24 : decode cX6_takeSign 24 = .ok (.return_, 1) := by decide +kernel
theorem dX6_takeSign_25 : decode cX6_takeSign 25 = .ok (.aload_n 0, 1) := by decide +kernel
theorem dX6_takeSign_26 : decode cX6_takeSign 26 = .ok (.getfield 12, 3) := by decide +kernel
theorem dX6_takeSign_29 : decode cX6_takeSign 29 = .ok (.invokevirtual 53, 3) := by decide +kernel
theorem dX6_takeSign_32 : decode cX6_takeSign 32 = .ok (.return_, 1) := by decide +kernel
theorem dX7_init_0 : decode cX7_init 0 = .ok (.aload_n 0, 1) := by decide +kernel
theorem dX7_init_1 : decode cX7_init 1 = .ok (.invokespecial 1, 3) := by decide +kernel
theorem dX7_init_4 : decode cX7_init 4 = .ok (.aload_n 0, 1) := by decide +kernel
theorem dX7_init_5 : decode cX7_init 5 = .ok (.bipush 8, 2) := by decide +kernel
theorem dX7_init_7 : decode cX7_init 7 = .ok (.newarray .int, 2) := by decide +kernel
theorem dX7_init_9 : decode cX7_init 9 = .ok (.putfield 9, 3) := by decide +kernel
theorem dX7_init_12 : decode cX7_init 12 = .ok (.aload_n 0, 1) := by decide +kernel
theorem dX7_init_13 : decode cX7_init 13 = .ok (.bipush 8, 2) := by decide +kernel
theorem dX7_init_15 : decode cX7_init 15 = .ok (.newarray .int, 2) := by decide +kernel
theorem dX7_init_17 : decode cX7_init 17 = .ok (.putfield 13, 3) := by decide +kernel
theorem dX7_init_20 : decode cX7_init 20 = .ok (.aload_n 0, 1) := by decide +kernel
theorem dX7_init_21 : decode cX7_init 21 = .ok (.sipush 320, 3) := by decide +kernel
theorem dX7_init_24 : decode cX7_init 24 = .ok (.newarray .int, 2) := by decide +kernel
theorem dX7_init_26 : decode cX7_init 26 = .ok (.putfield 16, 3) := by decide +kernel
theorem dX7_init_29 : decode cX7_init 29 = .ok (.iconst 0, 1) := by decide +kernel
theorem dX7_init_30 : decode cX7_init 30 = .ok (.istore_n 1, 1) := by decide +kernel
theorem dX7_init_31 : decode cX7_init 31 = .ok (.iload_n 1, 1) := by decide +kernel
theorem dX7_init_32 : decode cX7_init 32 = .ok (.bipush 8, 2) := by decide +kernel
theorem dX7_init_34 : decode cX7_init 34 = .ok (.if_icmp .ge 16, 3) := by decide +kernel
theorem dX7_init_37 : decode cX7_init 37 = .ok (.aload_n 0, 1) := by decide +kernel
theorem dX7_init_38 : decode cX7_init 38 = .ok (.getfield 13, 3) := by decide +kernel
theorem dX7_init_41 : decode cX7_init 41 = .ok (.iload_n 1, 1) := by decide +kernel
theorem dX7_init_42 : decode cX7_init 42 = .ok (.iconst (-1), 1) := by decide +kernel
theorem dX7_init_43 : decode cX7_init 43 = .ok (.iastore, 1) := by decide +kernel
theorem dX7_init_44 : decode cX7_init 44 = .ok (.iinc 1 1, 3) := by decide +kernel
theorem dX7_init_47 : decode cX7_init 47 = .ok (.goto (-16), 3) := by decide +kernel
theorem dX7_init_50 : decode cX7_init 50 = .ok (.return_, 1) := by decide +kernel
theorem dX7_isNumber_0 : decode cX7_isNumber 0 = .ok (.iload_n 1, 1) := by decide +kernel
theorem dX7_isNumber_1 : decode cX7_isNumber 1 = .ok (.ifCond .lt 13, 3) := by decide +kernel
theorem dX7_isNumber_4 : decode cX7_isNumber 4 = .ok (.iload_n 1, 1) := by decide +kernel
theorem dX7_isNumber_5 : decode cX7_isNumber 5 = .ok (.bipush 8, 2) := by decide +kernel
theorem dX7_isNumber_7 : decode cX7_isNumber 7 = .ok (.if_icmp .ge 7, 3) := by decide +kernel
theorem dX7_isNumber_10 : decode cX7_isNumber 10 = .ok (.iconst 1, 1) := by decide +kernel
theorem dX7_isNumber_11 : decode cX7_isNumber 11 = .ok (.goto 4, 3) := by decide +kernel
theorem dX7_isNumber_14 : decode cX7_isNumber 14 = .ok (.iconst 0, 1) := by decide +kernel
theorem dX7_isNumber_15 : decode cX7_isNumber 15 = .ok (.ireturn, 1) := by decide +kernel
theorem dX7_isMissing_0 : decode cX7_isMissing 0 = .ok (.aload_n 0, 1) := by decide +kernel
theorem dX7_isMissing_1 : decode cX7_isMissing 1 = .ok (.getfield 13, 3) := by decide +kernel
theorem dX7_isMissing_4 : decode cX7_isMissing 4 = .ok (.iload_n 1, 1) := by decide +kernel
theorem dX7_isMissing_5 : decode cX7_isMissing 5 = .ok (.iaload, 1) := by decide +kernel
theorem dX7_isMissing_6 : decode cX7_isMissing 6 = .ok (.iconst (-1), 1) := by decide +kernel
theorem dX7_isMissing_7 : decode cX7_isMissing 7 = .ok (.if_icmp .ne 7, 3) := by decide +kernel
theorem dX7_isMissing_10 : decode cX7_isMissing 10 = .ok (.iconst 1, 1) := by decide +kernel
theorem dX7_isMissing_11 : decode cX7_isMissing 11 = .ok (.goto 4, 3) := by decide +kernel
theorem dX7_isMissing_14 : decode cX7_isMissing 14 = .ok (.iconst 0, 1) := by decide +kernel
theorem dX7_isMissing_15 : decode cX7_isMissing 15 = .ok (.ireturn, 1) := by decide +kernel
theorem dX7_laneOf_0 : decode cX7_laneOf 0 = .ok (.aload_n 0, 1) := by decide +kernel
theorem dX7_laneOf_1 : decode cX7_laneOf 1 = .ok (.getfield 9, 3) := by decide +kernel
theorem dX7_laneOf_4 : decode cX7_laneOf 4 = .ok (.iload_n 1, 1) := by decide +kernel
theorem dX7_laneOf_5 : decode cX7_laneOf 5 = .ok (.iaload, 1) := by decide +kernel
theorem dX7_laneOf_6 : decode cX7_laneOf 6 = .ok (.ireturn, 1) := by decide +kernel
theorem dX7_sizeOf_0 : decode cX7_sizeOf 0 = .ok (.aload_n 0, 1) := by decide +kernel
theorem dX7_sizeOf_1 : decode cX7_sizeOf 1 = .ok (.getfield 13, 3) := by decide +kernel
theorem dX7_sizeOf_4 : decode cX7_sizeOf 4 = .ok (.iload_n 1, 1) := by decide +kernel
theorem dX7_sizeOf_5 : decode cX7_sizeOf 5 = .ok (.iaload, 1) := by decide +kernel
theorem dX7_sizeOf_6 : decode cX7_sizeOf 6 = .ok (.ireturn, 1) := by decide +kernel
theorem dX7_hasPlaces_0 : decode cX7_hasPlaces 0 = .ok (.iload_n 2, 1) := by decide +kernel
theorem dX7_hasPlaces_1 : decode cX7_hasPlaces 1 = .ok (.ifCond .lt 23, 3) := by decide +kernel
theorem dX7_hasPlaces_4 : decode cX7_hasPlaces 4 = .ok (.iload_n 3, 1) := by decide +kernel
theorem dX7_hasPlaces_5 : decode cX7_hasPlaces 5 = .ok (.ifCond .lt 19, 3) := by decide +kernel
theorem dX7_hasPlaces_8 : decode cX7_hasPlaces 8 = .ok (.iload_n 2, 1) := by decide +kernel
theorem dX7_hasPlaces_9 : decode cX7_hasPlaces 9 = .ok (.aload_n 0, 1) := by decide +kernel
theorem dX7_hasPlaces_10 : decode cX7_hasPlaces 10 = .ok (.getfield 13, 3) := by decide +kernel
theorem dX7_hasPlaces_13 : decode cX7_hasPlaces 13 = .ok (.iload_n 1, 1) := by decide +kernel
theorem dX7_hasPlaces_14 : decode cX7_hasPlaces 14 = .ok (.iaload, 1) := by decide +kernel
theorem dX7_hasPlaces_15 : decode cX7_hasPlaces 15 = .ok (.iload_n 3, 1) := by decide +kernel
theorem dX7_hasPlaces_16 : decode cX7_hasPlaces 16 = .ok (.isub, 1) := by decide +kernel
theorem dX7_hasPlaces_17 : decode cX7_hasPlaces 17 = .ok (.if_icmp .gt 7, 3) := by decide +kernel
theorem dX7_hasPlaces_20 : decode cX7_hasPlaces 20 = .ok (.iconst 1, 1) := by decide +kernel
theorem dX7_hasPlaces_21 : decode cX7_hasPlaces 21 = .ok (.goto 4, 3) := by decide +kernel
theorem dX7_hasPlaces_24 : decode cX7_hasPlaces 24 = .ok (.iconst 0, 1) := by decide +kernel
theorem dX7_hasPlaces_25 : decode cX7_hasPlaces 25 = .ok (.ireturn, 1) := by decide +kernel
theorem dX7_make_0 : decode cX7_make 0 = .ok (.aload_n 0, 1) := by decide +kernel
theorem dX7_make_1 : decode cX7_make 1 = .ok (.getfield 9, 3) := by decide +kernel
theorem dX7_make_4 : decode cX7_make 4 = .ok (.iload_n 1, 1) := by decide +kernel
theorem dX7_make_5 : decode cX7_make 5 = .ok (.iload_n 2, 1) := by decide +kernel
theorem dX7_make_6 : decode cX7_make 6 = .ok (.iastore, 1) := by decide +kernel
theorem dX7_make_7 : decode cX7_make 7 = .ok (.aload_n 0, 1) := by decide +kernel
theorem dX7_make_8 : decode cX7_make 8 = .ok (.getfield 13, 3) := by decide +kernel
theorem dX7_make_11 : decode cX7_make 11 = .ok (.iload_n 1, 1) := by decide +kernel
theorem dX7_make_12 : decode cX7_make 12 = .ok (.iload_n 3, 1) := by decide +kernel
theorem dX7_make_13 : decode cX7_make 13 = .ok (.iastore, 1) := by decide +kernel
theorem dX7_make_14 : decode cX7_make 14 = .ok (.iconst 0, 1) := by decide +kernel
theorem dX7_make_15 : decode cX7_make 15 = .ok (.istore 4, 2) := by decide +kernel
theorem dX7_make_17 : decode cX7_make 17 = .ok (.iload 4, 2) := by decide +kernel
theorem dX7_make_19 : decode cX7_make 19 = .ok (.iload_n 3, 1) := by decide +kernel
theorem dX7_make_20 : decode cX7_make 20 = .ok (.if_icmp .ge 22, 3) := by decide +kernel
theorem dX7_make_23 : decode cX7_make 23 = .ok (.aload_n 0, 1) := by decide +kernel
theorem dX7_make_24 : decode cX7_make 24 = .ok (.getfield 16, 3) := by decide +kernel
theorem dX7_make_27 : decode cX7_make 27 = .ok (.iload_n 1, 1) := by decide +kernel
theorem dX7_make_28 : decode cX7_make 28 = .ok (.bipush 40, 2) := by decide +kernel
theorem dX7_make_30 : decode cX7_make 30 = .ok (.imul, 1) := by decide +kernel
theorem dX7_make_31 : decode cX7_make 31 = .ok (.iload 4, 2) := by decide +kernel
theorem dX7_make_33 : decode cX7_make 33 = .ok (.iadd, 1) := by decide +kernel
theorem dX7_make_34 : decode cX7_make 34 = .ok (.iconst 0, 1) := by decide +kernel
theorem dX7_make_35 : decode cX7_make 35 = .ok (.iastore, 1) := by decide +kernel
theorem dX7_make_36 : decode cX7_make 36 = .ok (.iinc 4 1, 3) := by decide +kernel
theorem dX7_make_39 : decode cX7_make 39 = .ok (.goto (-22), 3) := by decide +kernel
theorem dX7_make_42 : decode cX7_make 42 = .ok (.return_, 1) := by decide +kernel
theorem dX7_remove_0 : decode cX7_remove 0 = .ok (.aload_n 0, 1) := by decide +kernel
theorem dX7_remove_1 : decode cX7_remove 1 = .ok (.getfield 13, 3) := by decide +kernel
theorem dX7_remove_4 : decode cX7_remove 4 = .ok (.iload_n 1, 1) := by decide +kernel
theorem dX7_remove_5 : decode cX7_remove 5 = .ok (.iconst (-1), 1) := by decide +kernel
theorem dX7_remove_6 : decode cX7_remove 6 = .ok (.iastore, 1) := by decide +kernel
theorem dX7_remove_7 : decode cX7_remove 7 = .ok (.return_, 1) := by decide +kernel
theorem dX7_put_0 : decode cX7_put 0 = .ok (.aload_n 0, 1) := by decide +kernel
theorem dX7_put_1 : decode cX7_put 1 = .ok (.getfield 9, 3) := by decide +kernel
theorem dX7_put_4 : decode cX7_put 4 = .ok (.iload_n 1, 1) := by decide +kernel
theorem dX7_put_5 : decode cX7_put 5 = .ok (.iaload, 1) := by decide +kernel
theorem dX7_put_6 : decode cX7_put 6 = .ok (.ifCond .ne 8, 3) := by decide +kernel
theorem dX7_put_9 : decode cX7_put 9 = .ok (.iload_n 3, 1) := by decide +kernel
theorem dX7_put_10 : decode cX7_put 10 = .ok (.i2b, 1) := by decide +kernel
theorem dX7_put_11 : decode cX7_put 11 = .ok (.goto 19, 3) := by decide +kernel
theorem dX7_put_14 : decode cX7_put 14 = .ok (.aload_n 0, 1) := by decide +kernel
theorem dX7_put_15 : decode cX7_put 15 = .ok (.getfield 9, 3) := by decide +kernel
theorem dX7_put_18 : decode cX7_put 18 = .ok (.iload_n 1, 1) := by decide +kernel
theorem dX7_put_19 : decode cX7_put 19 = .ok (.iaload, 1) := by decide +kernel
theorem dX7_put_20 : decode cX7_put 20 = .ok (.iconst 1, 1) := by decide +kernel
theorem dX7_put_21 : decode cX7_put 21 = .ok (.if_icmp .ne 8, 3) := by decide +kernel
theorem dX7_put_24 : decode cX7_put 24 = .ok (.iload_n 3, 1) := by decide +kernel
theorem dX7_put_25 : decode cX7_put 25 = .ok (.i2s, 1) := by decide +kernel
theorem dX7_put_26 : decode cX7_put 26 = .ok (.goto 4, 3) := by decide +kernel
theorem dX7_put_29 : decode cX7_put 29 = .ok (.iload_n 3, 1) := by decide +kernel
theorem dX7_put_30 : decode cX7_put 30 = .ok (.istore 4, 2) := by decide +kernel
theorem dX7_put_32 : decode cX7_put 32 = .ok (.aload_n 0, 1) := by decide +kernel
theorem dX7_put_33 : decode cX7_put 33 = .ok (.getfield 16, 3) := by decide +kernel
theorem dX7_put_36 : decode cX7_put 36 = .ok (.iload_n 1, 1) := by decide +kernel
theorem dX7_put_37 : decode cX7_put 37 = .ok (.bipush 40, 2) := by decide +kernel
theorem dX7_put_39 : decode cX7_put 39 = .ok (.imul, 1) := by decide +kernel
theorem dX7_put_40 : decode cX7_put 40 = .ok (.iload_n 2, 1) := by decide +kernel
theorem dX7_put_41 : decode cX7_put 41 = .ok (.iadd, 1) := by decide +kernel
theorem dX7_put_42 : decode cX7_put 42 = .ok (.iload 4, 2) := by decide +kernel
theorem dX7_put_44 : decode cX7_put 44 = .ok (.iastore, 1) := by decide +kernel
theorem dX7_put_45 : decode cX7_put 45 = .ok (.iload 4, 2) := by decide +kernel
theorem dX7_put_47 : decode cX7_put 47 = .ok (.ireturn, 1) := by decide +kernel
theorem dX7_move_0 : decode cX7_move 0 = .ok (.aload_n 0, 1) := by decide +kernel
theorem dX7_move_1 : decode cX7_move 1 = .ok (.getfield 16, 3) := by decide +kernel
theorem dX7_move_4 : decode cX7_move 4 = .ok (.iload_n 1, 1) := by decide +kernel
theorem dX7_move_5 : decode cX7_move 5 = .ok (.bipush 40, 2) := by decide +kernel
theorem dX7_move_7 : decode cX7_move 7 = .ok (.imul, 1) := by decide +kernel
theorem dX7_move_8 : decode cX7_move 8 = .ok (.iload_n 2, 1) := by decide +kernel
theorem dX7_move_9 : decode cX7_move 9 = .ok (.iadd, 1) := by decide +kernel
theorem dX7_move_10 : decode cX7_move 10 = .ok (.aload_n 0, 1) := by decide +kernel
theorem dX7_move_11 : decode cX7_move 11 = .ok (.getfield 16, 3) := by decide +kernel
theorem dX7_move_14 : decode cX7_move 14 = .ok (.iload_n 3, 1) := by decide +kernel
theorem dX7_move_15 : decode cX7_move 15 = .ok (.bipush 40, 2) := by decide +kernel
theorem dX7_move_17 : decode cX7_move 17 = .ok (.imul, 1) := by decide +kernel
theorem dX7_move_18 : decode cX7_move 18 = .ok (.iload 4, 2) := by decide +kernel
theorem dX7_move_20 : decode cX7_move 20 = .ok (.iadd, 1) := by decide +kernel
theorem dX7_move_21 : decode cX7_move 21 = .ok (.iload 5, 2) := by decide +kernel
theorem dX7_move_23 : decode cX7_move 23 = .ok (.invokestatic 19, 3) := by decide +kernel
theorem dX7_move_26 : decode cX7_move 26 = .ok (.return_, 1) := by decide +kernel
theorem dX7_hasBelowZero_0 : decode cX7_hasBelowZero 0 = .ok (.iconst 0, 1) := by decide +kernel
theorem dX7_hasBelowZero_1 : decode cX7_hasBelowZero 1 = .ok (.istore 4, 2) := by decide +kernel
theorem dX7_hasBelowZero_3 : decode cX7_hasBelowZero 3 = .ok (.iload 4, 2) := by decide +kernel
theorem dX7_hasBelowZero_5 : decode cX7_hasBelowZero 5 = .ok (.iload_n 3, 1) := by decide +kernel
theorem dX7_hasBelowZero_6 : decode cX7_hasBelowZero 6 = .ok (.if_icmp .ge 28, 3) := by decide +kernel
theorem dX7_hasBelowZero_9 : decode cX7_hasBelowZero 9 = .ok (.aload_n 0, 1) := by decide +kernel
theorem dX7_hasBelowZero_10 : decode cX7_hasBelowZero 10 = .ok (.getfield 16, 3) := by decide +kernel
theorem dX7_hasBelowZero_13 : decode cX7_hasBelowZero 13 = .ok (.iload_n 1, 1) := by decide +kernel
theorem dX7_hasBelowZero_14 : decode cX7_hasBelowZero 14 = .ok (.bipush 40, 2) := by decide +kernel
end
section
theorem dX7_hasBelowZero_16 : decode cX7_hasBelowZero 16 = .ok (.imul, 1) := by decide +kernel
theorem dX7_hasBelowZero_17 : decode cX7_hasBelowZero 17 = .ok (.iload_n 2, 1) := by decide +kernel
theorem dX7_hasBelowZero_18 : decode cX7_hasBelowZero 18 = .ok (.iadd, 1) := by decide +kernel
theorem dX7_hasBelowZero_19 : decode cX7_hasBelowZero 19 = .ok (.iload 4, 2) := by decide +kernel
theorem dX7_hasBelowZero_21 : decode cX7_hasBelowZero 21 = .ok (.iadd, 1) := by decide +kernel
theorem dX7_hasBelowZero_22 : decode cX7_hasBelowZero 22 = .ok (.iaload, 1) := by decide +kernel
theorem dX7_hasBelowZero_23 : decode cX7_hasBelowZero 23 = .ok (.ifCond .ge 5, 3) := by decide +kernel
theorem dX7_hasBelowZero_26 : decode cX7_hasBelowZero 26 = .ok (.iconst 1, 1) := by decide +kernel
theorem dX7_hasBelowZero_27 : decode cX7_hasBelowZero 27 = .ok (.ireturn, 1) := by decide +kernel
theorem dX7_hasBelowZero_28 : decode cX7_hasBelowZero 28 = .ok (.iinc 4 1, 3) := by decide +kernel
theorem dX7_hasBelowZero_31 : decode cX7_hasBelowZero 31 = .ok (.goto (-28), 3) := by decide +kernel
theorem dX7_hasBelowZero_34 : decode cX7_hasBelowZero 34 = .ok (.iconst 0, 1) := by decide +kernel
theorem dX7_hasBelowZero_35 : decode cX7_hasBelowZero 35 = .ok (.ireturn, 1) := by decide +kernel
theorem dX7_countUpTo_0 : decode cX7_countUpTo 0 = .ok (.iconst 0, 1) := by decide +kernel
theorem dX7_countUpTo_1 : decode cX7_countUpTo 1 = .ok (.istore 5, 2) := by decide +kernel
theorem dX7_countUpTo_3 : decode cX7_countUpTo 3 = .ok (.iload 5, 2) := by decide +kernel
theorem dX7_countUpTo_5 : decode cX7_countUpTo 5 = .ok (.iload_n 3, 1) := by decide +kernel
theorem dX7_countUpTo_6 : decode cX7_countUpTo 6 = .ok (.if_icmp .ge 31, 3) := by decide +kernel
theorem dX7_countUpTo_9 : decode cX7_countUpTo 9 = .ok (.aload_n 0, 1) := by decide +kernel
theorem dX7_countUpTo_10 : decode cX7_countUpTo 10 = .ok (.getfield 16, 3) := by decide +kernel
theorem dX7_countUpTo_13 : decode cX7_countUpTo 13 = .ok (.iload_n 1, 1) := by decide +kernel
theorem dX7_countUpTo_14 : decode cX7_countUpTo 14 = .ok (.bipush 40, 2) := by decide +kernel
theorem dX7_countUpTo_16 : decode cX7_countUpTo 16 = .ok (.imul, 1) := by decide +kernel
theorem dX7_countUpTo_17 : decode cX7_countUpTo 17 = .ok (.iload_n 2, 1) := by decide +kernel
theorem dX7_countUpTo_18 : decode cX7_countUpTo 18 = .ok (.iadd, 1) := by decide +kernel
theorem dX7_countUpTo_19 : decode cX7_countUpTo 19 = .ok (.iload 5, 2) := by decide +kernel
theorem dX7_countUpTo_21 : decode cX7_countUpTo 21 = .ok (.iadd, 1) := by decide +kernel
theorem dX7_countUpTo_22 : decode cX7_countUpTo 22 = .ok (.iaload, 1) := by decide +kernel
theorem dX7_countUpTo_23 : decode cX7_countUpTo 23 = .ok (.iload 4, 2) := by decide +kernel
theorem dX7_countUpTo_25 : decode cX7_countUpTo 25 = .ok (.if_icmp .le 6, 3) := by decide +kernel
theorem dX7_countUpTo_28 : decode cX7_countUpTo 28 = .ok (.iload 5, 2) := by decide +kernel
theorem dX7_countUpTo_30 : decode cX7_countUpTo 30 = .ok (.ireturn, 1) := by decide +kernel
theorem dX7_countUpTo_31 : decode cX7_countUpTo 31 = .ok (.iinc 5 1, 3) := by decide +kernel
theorem dX7_countUpTo_34 : decode cX7_countUpTo 34 = .ok (.goto (-31), 3) := by decide +kernel
theorem dX7_countUpTo_37 : decode cX7_countUpTo 37 = .ok (.iload_n 3, 1) := by decide +kernel
theorem dX7_countUpTo_38 : decode cX7_countUpTo 38 = .ok (.ireturn, 1) := by decide +kernel
theorem dX7_howMany_0 : decode cX7_howMany 0 = .ok (.iconst 0, 1) := by decide +kernel
theorem dX7_howMany_1 : decode cX7_howMany 1 = .ok (.istore_n 1, 1) := by decide +kernel
theorem dX7_howMany_2 : decode cX7_howMany 2 = .ok (.iconst 0, 1) := by decide +kernel
theorem dX7_howMany_3 : decode cX7_howMany 3 = .ok (.istore_n 2, 1) := by decide +kernel
theorem dX7_howMany_4 : decode cX7_howMany 4 = .ok (.iload_n 2, 1) := by decide +kernel
theorem dX7_howMany_5 : decode cX7_howMany 5 = .ok (.bipush 8, 2) := by decide +kernel
theorem dX7_howMany_7 : decode cX7_howMany 7 = .ok (.if_icmp .ge 25, 3) := by decide +kernel
theorem dX7_howMany_10 : decode cX7_howMany 10 = .ok (.iload_n 1, 1) := by decide +kernel
theorem dX7_howMany_11 : decode cX7_howMany 11 = .ok (.aload_n 0, 1) := by decide +kernel
theorem dX7_howMany_12 : decode cX7_howMany 12 = .ok (.iload_n 2, 1) := by decide +kernel
theorem dX7_howMany_13 : decode cX7_howMany 13 = .ok (.invokevirtual 25, 3) := by decide +kernel
theorem dX7_howMany_16 : decode cX7_howMany 16 = .ok (.ifCond .eq 7, 3) := by decide +kernel
theorem dX7_howMany_19 : decode cX7_howMany 19 = .ok (.iconst 0, 1) := by decide +kernel
theorem dX7_howMany_20 : decode cX7_howMany 20 = .ok (.goto 4, 3) := by decide +kernel
theorem dX7_howMany_23 : decode cX7_howMany 23 = .ok (.iconst 1, 1) := by decide +kernel
theorem dX7_howMany_24 : decode cX7_howMany 24 = .ok (.iadd, 1) := by decide +kernel
theorem dX7_howMany_25 : decode cX7_howMany 25 = .ok (.istore_n 1, 1) := by decide +kernel
theorem dX7_howMany_26 : decode cX7_howMany 26 = .ok (.iinc 2 1, 3) := by decide +kernel
theorem dX7_howMany_29 : decode cX7_howMany 29 = .ok (.goto (-25), 3) := by decide +kernel
theorem dX7_howMany_32 : decode cX7_howMany 32 = .ok (.iload_n 1, 1) := by decide +kernel
theorem dX7_howMany_33 : decode cX7_howMany 33 = .ok (.ireturn, 1) := by decide +kernel
theorem dX8_init_0 : decode cX8_init 0 = .ok (.aload_n 0, 1) := by decide +kernel
theorem dX8_init_1 : decode cX8_init 1 = .ok (.invokespecial 1, 3) := by decide +kernel
theorem dX8_init_4 : decode cX8_init 4 = .ok (.aload_n 0, 1) := by decide +kernel
theorem dX8_init_5 : decode cX8_init 5 = .ok (.sipush 400, 3) := by decide +kernel
theorem dX8_init_8 : decode cX8_init 8 = .ok (.newarray .byte, 2) := by decide +kernel
theorem dX8_init_10 : decode cX8_init 10 = .ok (.putfield 9, 3) := by decide +kernel
theorem dX8_init_13 : decode cX8_init 13 = .ok (.aload_n 0, 1) := by decide +kernel
theorem dX8_init_14 : decode cX8_init 14 = .ok (.iconst 0, 1) := by decide +kernel
theorem dX8_init_15 : decode cX8_init 15 = .ok (.putfield 13, 3) := by decide +kernel
theorem dX8_init_18 : decode cX8_init 18 = .ok (.aload_n 0, 1) := by decide +kernel
theorem dX8_init_19 : decode cX8_init 19 = .ok (.iconst 0, 1) := by decide +kernel
theorem dX8_init_20 : decode cX8_init 20 = .ok (.putfield 17, 3) := by decide +kernel
theorem dX8_init_23 : decode cX8_init 23 = .ok (.aload_n 0, 1) := by decide +kernel
theorem dX8_init_24 : decode cX8_init 24 = .ok (.iconst 0, 1) := by decide +kernel
theorem dX8_init_25 : decode cX8_init 25 = .ok (.putfield 20, 3) := by decide +kernel
theorem dX8_init_28 : decode cX8_init 28 = .ok (.aload_n 0, 1) := by decide +kernel
theorem dX8_init_29 : decode cX8_init 29 = .ok (.iconst 0, 1) := by decide +kernel
theorem dX8_init_30 : decode cX8_init 30 = .ok (.putfield 23, 3) := by decide +kernel
theorem dX8_init_33 : decode cX8_init 33 = .ok (.aload_n 0, 1) := by decide +kernel
theorem dX8_init_34 : decode cX8_init 34 = .ok (.iconst 0, 1) := by decide +kernel
theorem dX8_init_35 : decode cX8_init 35 = .ok (.putfield 26, 3) := by decide +kernel
theorem dX8_init_38 : decode cX8_init 38 = .ok (.return_, 1) := by decide +kernel
theorem dX8_hasRoom_0 : decode cX8_hasRoom 0 = .ok (.aload_n 0, 1) := by decide +kernel
theorem dX8_hasRoom_1 : decode cX8_hasRoom 1 = .ok (.getfield 13, 3) := by decide +kernel
theorem dX8_hasRoom_4 : decode cX8_hasRoom 4 = .ok (.iload_n 1, 1) := by decide +kernel
theorem dX8_hasRoom_5 : decode cX8_hasRoom 5 = .ok (.iadd, 1) := by decide +kernel
theorem dX8_hasRoom_6 : decode cX8_hasRoom 6 = .ok (.sipush 400, 3) := by decide +kernel
theorem dX8_hasRoom_9 : decode cX8_hasRoom 9 = .ok (.if_icmp .gt 7, 3) := by decide +kernel
theorem dX8_hasRoom_12 : decode cX8_hasRoom 12 = .ok (.iconst 1, 1) := by decide +kernel
theorem dX8_hasRoom_13 : decode cX8_hasRoom 13 = .ok (.goto 4, 3) := by decide +kernel
theorem dX8_hasRoom_16 : decode cX8_hasRoom 16 = .ok (.iconst 0, 1) := by decide +kernel
theorem dX8_hasRoom_17 : decode cX8_hasRoom 17 = .ok (.ireturn, 1) := by decide +kernel
theorem dX8_add_0 : decode cX8_add 0 = .ok (.aload_n 0, 1) := by decide +kernel
theorem dX8_add_1 : decode cX8_add 1 = .ok (.getfield 9, 3) := by decide +kernel
theorem dX8_add_4 : decode cX8_add 4 = .ok (.aload_n 0, 1) := by decide +kernel
theorem dX8_add_5 : decode cX8_add 5 = .ok (.getfield 13, 3) := by decide +kernel
theorem dX8_add_8 : decode cX8_add 8 = .ok (.iload_n 1, 1) := by decide +kernel
theorem dX8_add_9 : decode cX8_add 9 = .ok (.bastore, 1) := by decide +kernel
theorem dX8_add_10 : decode cX8_add 10 = .ok (.aload_n 0, 1) := by decide +kernel
theorem dX8_add_11 : decode cX8_add 11 = .ok (.dup, 1) := by decide +kernel
theorem dX8_add_12 : decode cX8_add 12 = .ok (.getfield 13, 3) := by decide +kernel
theorem dX8_add_15 : decode cX8_add 15 = .ok (.iconst 1, 1) := by decide +kernel
theorem dX8_add_16 : decode cX8_add 16 = .ok (.iadd, 1) := by decide +kernel
theorem dX8_add_17 : decode cX8_add 17 = .ok (.putfield 13, 3) := by decide +kernel
theorem dX8_add_20 : decode cX8_add 20 = .ok (.return_, 1) := by decide +kernel
theorem dX8_rewind_0 : decode cX8_rewind 0 = .ok (.aload_n 0, 1) := by decide +kernel
theorem dX8_rewind_1 : decode cX8_rewind 1 = .ok (.iconst 0, 1) := by decide +kernel
theorem dX8_rewind_2 : decode cX8_rewind 2 = .ok (.putfield 26, 3) := by decide +kernel
theorem dX8_rewind_5 : decode cX8_rewind 5 = .ok (.aload_n 0, 1) := by decide +kernel
theorem dX8_rewind_6 : decode cX8_rewind 6 = .ok (.invokevirtual 29, 3) := by decide +kernel
theorem dX8_rewind_9 : decode cX8_rewind 9 = .ok (.return_, 1) := by decide +kernel
theorem dX8_next_0 : decode cX8_next 0 = .ok (.aload_n 0, 1) := by decide +kernel
theorem dX8_next_1 : decode cX8_next 1 = .ok (.getfield 26, 3) := by decide +kernel
theorem dX8_next_4 : decode cX8_next 4 = .ok (.aload_n 0, 1) := by decide +kernel
theorem dX8_next_5 : decode cX8_next 5 = .ok (.getfield 13, 3) := by decide +kernel
theorem dX8_next_8 : decode cX8_next 8 = .ok (.if_icmp .ge 31, 3) := by decide +kernel
theorem dX8_next_11 : decode cX8_next 11 = .ok (.aload_n 0, 1) := by decide +kernel
theorem dX8_next_12 : decode cX8_next 12 = .ok (.getfield 9, 3) := by decide +kernel
theorem dX8_next_15 : decode cX8_next 15 = .ok (.aload_n 0, 1) := by decide +kernel
theorem dX8_next_16 : decode cX8_next 16 = .ok (.getfield 26, 3) := by decide +kernel
theorem dX8_next_19 : decode cX8_next 19 = .ok (.baload, 1) := by decide +kernel
theorem dX8_next_20 : decode cX8_next 20 = .ok (.invokestatic 32, 3) := by decide +kernel
theorem dX8_next_23 : decode cX8_next 23 = .ok (.ifCond .eq 16, 3) := by decide +kernel
theorem dX8_next_26 : decode cX8_next 26 = .ok (.aload_n 0, 1) := by decide +kernel
theorem dX8_next_27 : decode cX8_next 27 = .ok (.dup, 1) := by decide +kernel
theorem dX8_next_28 : decode cX8_next 28 = .ok (.getfield 26, 3) := by decide +kernel
theorem dX8_next_31 : decode cX8_next 31 = .ok (.iconst 1, 1) := by decide +kernel
theorem dX8_next_32 : decode cX8_next 32 = .ok (.iadd, 1) := by decide +kernel
theorem dX8_next_33 : decode cX8_next 33 = .ok (.putfield 26, 3) := by decide +kernel
theorem dX8_next_36 : decode cX8_next 36 = .ok (.goto (-36), 3) := by decide +kernel
theorem dX8_next_39 : decode cX8_next 39 = .ok (.aload_n 0, 1) := by decide +kernel
theorem dX8_next_40 : decode cX8_next 40 = .ok (.aload_n 0, 1) := by decide +kernel
theorem dX8_next_41 : decode cX8_next 41 = .ok (.getfield 26, 3) := by decide +kernel
theorem dX8_next_44 : decode cX8_next 44 = .ok (.putfield 20, 3) := by decide +kernel
theorem dX8_next_47 : decode cX8_next 47 = .ok (.aload_n 0, 1) := by decide +kernel
theorem dX8_next_48 : decode cX8_next 48 = .ok (.getfield 26, 3) := by decide +kernel
theorem dX8_next_51 : decode cX8_next 51 = .ok (.aload_n 0, 1) := by decide +kernel
theorem dX8_next_52 : decode cX8_next 52 = .ok (.getfield 13, 3) := by decide +kernel
theorem dX8_next_55 : decode cX8_next 55 = .ok (.if_icmp .lt 11, 3) := by decide +kernel
theorem dX8_next_58 : decode cX8_next 58 = .ok (.aload_n 0, 1) := by decide +kernel
theorem dX8_next_59 : decode cX8_next 59 = .ok (.iconst 0, 1) := by decide +kernel
theorem dX8_next_60 : decode cX8_next 60 = .ok (.putfield 17, 3) := by decide +kernel
theorem dX8_next_63 : decode cX8_next 63 = .ok (.goto 80, 3) := by decide +kernel
theorem dX8_next_66 : decode cX8_next 66 = .ok (.aload_n 0, 1) := by decide +kernel
theorem dX8_next_67 : decode cX8_next 67 = .ok (.getfield 9, 3) := by decide +kernel
theorem dX8_next_70 : decode cX8_next 70 = .ok (.aload_n 0, 1) := by decide +kernel
theorem dX8_next_71 : decode cX8_next 71 = .ok (.getfield 26, 3) := by decide +kernel
theorem dX8_next_74 : decode cX8_next 74 = .ok (.baload, 1) := by decide +kernel
theorem dX8_next_75 : decode cX8_next 75 = .ok (.invokestatic 36, 3) := by decide +kernel
theorem dX8_next_78 : decode cX8_next 78 = .ok (.ifCond .eq 10, 3) := by decide +kernel
theorem dX8_next_81 : decode cX8_next 81 = .ok (.aload_n 0, 1) := by decide +kernel
theorem dX8_next_82 : decode cX8_next 82 = .ok (.invokevirtual 39, 3) := by decide +kernel
theorem dX8_next_85 : decode cX8_next 85 = .ok (.goto 58, 3) := by decide +kernel
theorem dX8_next_88 : decode cX8_next 88 = .ok (.aload_n 0, 1) := by decide +kernel
theorem dX8_next_89 : decode cX8_next 89 = .ok (.getfield 9, 3) := by decide +kernel
theorem dX8_next_92 : decode cX8_next 92 = .ok (.aload_n 0, 1) := by decide +kernel
theorem dX8_next_93 : decode cX8_next 93 = .ok (.getfield 26, 3) := by decide +kernel
theorem dX8_next_96 : decode cX8_next 96 = .ok (.baload, 1) := by decide +kernel
theorem dX8_next_97 : decode cX8_next 97 = .ok (.invokestatic 42, 3) := by decide +kernel
theorem dX8_next_100 : decode cX8_next 100 = .ok (.ifCond .eq 10, 3) := by decide +kernel
theorem dX8_next_103 : decode cX8_next 103 = .ok (.aload_n 0, 1) := by decide +kernel
theorem dX8_next_104 : decode cX8_next 104 = .ok (.invokevirtual 45, 3) := by decide +kernel
theorem dX8_next_107 : decode cX8_next 107 = .ok (.goto 36, 3) := by decide +kernel
theorem dX8_next_110 : decode cX8_next 110 = .ok (.aload_n 0, 1) := by decide +kernel
theorem dX8_next_111 : decode cX8_next 111 = .ok (.aload_n 0, 1) := by decide +kernel
theorem dX8_next_112 : decode cX8_next 112 = .ok (.getfield 9, 3) := by decide +kernel
theorem dX8_next_115 : decode cX8_next 115 = .ok (.aload_n 0, 1) := by decide +kernel
theorem dX8_next_116 : decode cX8_next 116 = .ok (.getfield 26, 3) := by decide +kernel
theorem dX8_next_119 : decode cX8_next 119 = .ok (.baload, 1) := by decide +kernel
theorem dX8_next_120 : decode cX8_next 120 = .ok (.bipush 59, 2) := by decide +kernel
theorem dX8_next_122 : decode cX8_next 122 = .ok (.if_icmp .ne 7, 3) := by decide +kernel
theorem dX8_next_125 : decode cX8_next 125 = .ok (.iconst 3, 1) := by decide +kernel
theorem dX8_next_126 : decode cX8_next 126 = .ok (.goto 4, 3) := by decide +kernel
theorem dX8_next_129 : decode cX8_next 129 = .ok (.iconst 4, 1) := by decide +kernel
theorem dX8_next_130 : decode cX8_next 130 = .ok (.putfield 17, 3) := by decide +kernel
theorem dX8_next_133 : decode cX8_next 133 = .ok (.aload_n 0, 1) := by decide +kernel
theorem dX8_next_134 : decode cX8_next 134 = .ok (.dup, 1) := by decide +kernel
theorem dX8_next_135 : decode cX8_next 135 = .ok (.getfield 26, 3) := by decide +kernel
theorem dX8_next_138 : decode cX8_next 138 = .ok (.iconst 1, 1) := by decide +kernel
theorem dX8_next_139 : decode cX8_next 139 = .ok (.iadd, 1) := by decide +kernel
theorem dX8_next_140 : decode cX8_next 140 = .ok (.putfield 26, 3) := by decide +kernel
theorem dX8_next_143 : decode cX8_next 143 = .ok (.return_, 1) := by decide +kernel
theorem dX8_isWord_0 : decode cX8_isWord 0 = .ok (.aload_n 0, 1) := by decide +kernel
theorem dX8_isWord_1 : decode cX8_isWord 1 = .ok (.getfield 17, 3) := by decide +kernel
theorem dX8_isWord_4 : decode cX8_isWord 4 = .ok (.iconst 1, 1) := by decide +kernel
theorem dX8_isWord_5 : decode cX8_isWord 5 = .ok (.if_icmp .ne 19, 3) := by decide +kernel
theorem dX8_isWord_8 : decode cX8_isWord 8 = .ok (.aload_n 0, 1) := by decide +kernel
theorem dX8_isWord_9 : decode cX8_isWord 9 = .ok (.getfield 26, 3) := by decide +kernel
theorem dX8_isWord_12 : decode cX8_isWord 12 = .ok (.aload_n 0, 1) := by decide +kernel
theorem dX8_isWord_13 : decode cX8_isWord 13 = .ok (.getfield 20, 3) := by decide +kernel
theorem dX8_isWord_16 : decode cX8_isWord 16 = .ok (.isub, 1) := by decide +kernel
theorem dX8_isWord_17 : decode cX8_isWord 17 = .ok (.aload_n 1, 1) := by decide +kernel
theorem dX8_isWord_18 : decode cX8_isWord 18 = .ok (.invokevirtual 48, 3) := by decide +kernel
theorem dX8_isWord_21 : decode cX8_isWord 21 = .ok (.if_icmp .eq 5, 3) := by decide +kernel
theorem dX8_isWord_24 : decode cX8_isWord 24 = .ok (.iconst 0, 1) := by decide +kernel
theorem dX8_isWord_25 : decode cX8_isWord 25 = .ok (.ireturn, 1) := by decide +kernel
theorem dX8_isWord_26 : decode cX8_isWord 26 = .ok (.iconst 0, 1) := by decide +kernel
theorem dX8_isWord_27 : decode cX8_isWord 27 = .ok (.istore_n 2, 1) := by decide +kernel
theorem dX8_isWord_28 : decode cX8_isWord 28 = .ok (.iload_n 2, 1) := by decide +kernel
theorem dX8_isWord_29 : decode cX8_isWord 29 = .ok (.aload_n 1, 1) := by decide +kernel
theorem dX8_isWord_30 : decode cX8_isWord 30 = .ok (.invokevirtual 48, 3) := by decide +kernel
theorem dX8_isWord_33 : decode cX8_isWord 33 = .ok (.if_icmp .ge 30, 3) := by decide +kernel
theorem dX8_isWord_36 : decode cX8_isWord 36 = .ok (.aload_n 0, 1) := by decide +kernel
theorem dX8_isWord_37 : decode cX8_isWord 37 = .ok (.getfield 9, 3) := by decide +kernel
theorem dX8_isWord_40 : decode cX8_isWord 40 = .ok (.aload_n 0, 1) := by decide +kernel
theorem dX8_isWord_41 : decode cX8_isWord 41 = .ok (.getfield 20, 3) := by decide +kernel
theorem dX8_isWord_44 : decode cX8_isWord 44 = .ok (.iload_n 2, 1) := by decide +kernel
theorem dX8_isWord_45 : decode cX8_isWord 45 = .ok (.iadd, 1) := by decide +kernel
theorem dX8_isWord_46 : decode cX8_isWord 46 = .ok (.baload, 1) := by decide +kernel
theorem dX8_isWord_47 : decode cX8_isWord 47 = .ok (.aload_n 1, 1) := by decide +kernel
theorem dX8_isWord_48 : decode cX8_isWord 48 = .ok (.iload_n 2, 1) := by decide +kernel
theorem dX8_isWord_49 : decode cX8_isWord 49 = .ok (.invokevirtual 53, 3) := by decide +kernel
theorem dX8_isWord_52 : decode cX8_isWord 52 = .ok (.if_icmp .eq 5, 3) := by decide +kernel
theorem dX8_isWord_55 : decode cX8_isWord 55 = .ok (.iconst 0, 1) := by decide +kernel
theorem dX8_isWord_56 : decode cX8_isWord 56 = .ok (.ireturn, 1) := by decide +kernel
theorem dX8_isWord_57 : decode cX8_isWord 57 = .ok (.iinc 2 1, 3) := by decide +kernel
theorem dX8_isWord_60 : decode cX8_isWord 60 = .ok (.goto (-32), 3) := by decide +kernel
theorem dX8_isWord_63 : decode cX8_isWord 63 = .ok (.iconst 1, 1) := by decide +kernel
theorem dX8_isWord_64 : decode cX8_isWord 64 = .ok (.ireturn, 1) := by decide +kernel
theorem dX8_takeName_0 : decode cX8_takeName 0 = .ok (.aload_n 0, 1) := by decide +kernel
theorem dX8_takeName_1 : decode cX8_takeName 1 = .ok (.iconst 1, 1) := by decide +kernel
theorem dX8_takeName_2 : decode cX8_takeName 2 = .ok (.putfield 17, 3) := by decide +kernel
theorem dX8_takeName_5 : decode cX8_takeName 5 = .ok (.aload_n 0, 1) := by decide +kernel
theorem dX8_takeName_6 : decode cX8_takeName 6 = .ok (.getfield 26, 3) := by decide +kernel
theorem dX8_takeName_9 : decode cX8_takeName 9 = .ok (.aload_n 0, 1) := by decide +kernel
theorem dX8_takeName_10 : decode cX8_takeName 10 = .ok (.getfield 13, 3) := by decide +kernel
theorem dX8_takeName_13 : decode cX8_takeName 13 = .ok (.if_icmp .ge 31, 3) := by decide +kernel
theorem dX8_takeName_16 : decode cX8_takeName 16 = .ok (.aload_n 0, 1) := by decide +kernel
theorem dX8_takeName_17 : decode cX8_takeName 17 = .ok (.getfield 9, 3) := by decide +kernel
theorem dX8_takeName_20 : decode cX8_takeName 20 = .ok (.aload_n 0, 1) := by decide +kernel
theorem dX8_takeName_21 : decode cX8_takeName 21 = .ok (.getfield 26, 3) := by decide +kernel
theorem dX8_takeName_24 : decode cX8_takeName 24 = .ok (.baload, 1) := by decide +kernel
theorem dX8_takeName_25 : decode cX8_takeName 25 = .ok (.invokestatic 36, 3) := by decide +kernel
theorem dX8_takeName_28 : decode cX8_takeName 28 = .ok (.ifCond .eq 16, 3) := by decide +kernel
theorem dX8_takeName_31 : decode cX8_takeName 31 = .ok (.aload_n 0, 1) := by decide +kernel
theorem dX8_takeName_32 : decode cX8_takeName 32 = .ok (.dup, 1) := by decide +kernel
theorem dX8_takeName_33 : decode cX8_takeName 33 = .ok (.getfield 26, 3) := by decide +kernel
theorem dX8_takeName_36 : decode cX8_takeName 36 = .ok (.iconst 1, 1) := by decide +kernel
theorem dX8_takeName_37 : decode cX8_takeName 37 = .ok (.iadd, 1) := by decide +kernel
theorem dX8_takeName_38 : decode cX8_takeName 38 = .ok (.putfield 26, 3) := by decide +kernel
theorem dX8_takeName_41 : decode cX8_takeName 41 = .ok (.goto (-36), 3) := by decide +kernel
theorem dX8_takeName_44 : decode cX8_takeName 44 = .ok (.return_, 1) := by decide +kernel
theorem dX8_takeNumber_0 : decode cX8_takeNumber 0 = .ok (.aload_n 0, 1) := by decide +kernel
theorem dX8_takeNumber_1 : decode cX8_takeNumber 1 = .ok (.iconst 0, 1) := by decide +kernel
theorem dX8_takeNumber_2 : decode cX8_takeNumber 2 = .ok (.putfield 23, 3) := by decide +kernel
theorem dX8_takeNumber_5 : decode cX8_takeNumber 5 = .ok (.aload_n 0, 1) := by decide +kernel
theorem dX8_takeNumber_6 : decode cX8_takeNumber 6 = .ok (.getfield 26, 3) := by decide +kernel
theorem dX8_takeNumber_9 : decode cX8_takeNumber 9 = .ok (.aload_n 0, 1) := by decide +kernel
theorem dX8_takeNumber_10 : decode cX8_takeNumber 10 = .ok (.getfield 13, 3) := by decide +kernel
theorem dX8_takeNumber_13 : decode cX8_takeNumber 13 = .ok (.if_icmp .ge 55, 3) := by decide +kernel
theorem dX8_takeNumber_16 : decode cX8_takeNumber 16 = .ok (.aload_n 0, 1) := by decide +kernel
theorem dX8_takeNumber_17 : decode cX8_takeNumber 17 = .ok (.getfield 9, 3) := by decide +kernel
theorem dX8_takeNumber_20 : decode cX8_takeNumber 20 = .ok (.aload_n 0, 1) := by decide +kernel
theorem dX8_takeNumber_21 : decode cX8_takeNumber 21 = .ok (.getfield 26, 3) := by decide +kernel
theorem dX8_takeNumber_24 : decode cX8_takeNumber 24 = .ok (.baload, 1) := by decide +kernel
theorem dX8_takeNumber_25 : decode cX8_takeNumber 25 = .ok (.invokestatic 42, 3) := by decide +kernel
theorem dX8_takeNumber_28 : decode cX8_takeNumber 28 = .ok (.ifCond .eq 40, 3) := by decide +kernel
theorem dX8_takeNumber_31 : decode cX8_takeNumber 31 = .ok (.aload_n 0, 1) := by decide +kernel
theorem dX8_takeNumber_32 : decode cX8_takeNumber 32 = .ok (.aload_n 0, 1) := by decide +kernel
theorem dX8_takeNumber_33 : decode cX8_takeNumber 33 = .ok (.getfield 23, 3) := by decide +kernel
theorem dX8_takeNumber_36 : decode cX8_takeNumber 36 = .ok (.bipush 10, 2) := by decide +kernel
theorem dX8_takeNumber_38 : decode cX8_takeNumber 38 = .ok (.imul, 1) := by decide +kernel
theorem dX8_takeNumber_39 : decode cX8_takeNumber 39 = .ok (.aload_n 0, 1) := by decide +kernel
theorem dX8_takeNumber_40 : decode cX8_takeNumber 40 = .ok (.getfield 9, 3) := by decide +kernel
theorem dX8_takeNumber_43 : decode cX8_takeNumber 43 = .ok (.aload_n 0, 1) := by decide +kernel
theorem dX8_takeNumber_44 : decode cX8_takeNumber 44 = .ok (.getfield 26, 3) := by decide +kernel
theorem dX8_takeNumber_47 : decode cX8_takeNumber 47 = .ok (.baload, 1) := by decide +kernel
theorem dX8_takeNumber_48 : decode cX8_takeNumber 48 = .ok (.iadd, 1) := by decide +kernel
theorem dX8_takeNumber_49 : decode cX8_takeNumber 49 = .ok (.bipush 48, 2) := by decide +kernel
theorem dX8_takeNumber_51 : decode cX8_takeNumber 51 = .ok (.isub, 1) := by decide +kernel
theorem dX8_takeNumber_52 : decode cX8_takeNumber 52 = .ok (.putfield 23, 3) := by decide +kernel
theorem dX8_takeNumber_55 : decode cX8_takeNumber 55 = .ok (.aload_n 0, 1) := by decide +kernel
theorem dX8_takeNumber_56 : decode cX8_takeNumber 56 = .ok (.dup, 1) := by decide +kernel
theorem dX8_takeNumber_57 : decode cX8_takeNumber 57 = .ok (.getfield 26, 3) := by decide +kernel
theorem dX8_takeNumber_60 : decode cX8_takeNumber 60 = .ok (.iconst 1, 1) := by decide +kernel
theorem dX8_takeNumber_61 : decode cX8_takeNumber 61 = .ok (.iadd, 1) := by decide +kernel
theorem dX8_takeNumber_62 : decode cX8_takeNumber 62 = .ok (.putfield 26, 3) := by decide +kernel
theorem dX8_takeNumber_65 : decode cX8_takeNumber 65 = .ok (.goto (-60), 3) := by decide +kernel
theorem dX8_takeNumber_68 : decode cX8_takeNumber 68 = .ok (.aload_n 0, 1) := by decide +kernel
theorem dX8_takeNumber_69 : decode cX8_takeNumber 69 = .ok (.aload_n 0, 1) := by decide +kernel
theorem dX8_takeNumber_70 : decode cX8_takeNumber 70 = .ok (.getfield 26, 3) := by decide +kernel
theorem dX8_takeNumber_73 : decode cX8_takeNumber 73 = .ok (.aload_n 0, 1) := by decide +kernel
theorem dX8_takeNumber_74 : decode cX8_takeNumber 74 = .ok (.getfield 20, 3) := by decide +kernel
theorem dX8_takeNumber_77 : decode cX8_takeNumber 77 = .ok (.isub, 1) := by decide +kernel
theorem dX8_takeNumber_78 : decode cX8_takeNumber 78 = .ok (.iconst 3, 1) := by decide +kernel
theorem dX8_takeNumber_79 : decode cX8_takeNumber 79 = .ok (.if_icmp .gt 7, 3) := by decide +kernel
theorem dX8_takeNumber_82 : decode cX8_takeNumber 82 = .ok (.iconst 2, 1) := by decide +kernel
theorem dX8_takeNumber_83 : decode cX8_takeNumber 83 = .ok (.goto 4, 3) := by decide +kernel
theorem dX8_takeNumber_86 : decode cX8_takeNumber 86 = .ok (.iconst 4, 1) := by decide +kernel
theorem dX8_takeNumber_87 : decode cX8_takeNumber 87 = .ok (.putfield 17, 3) := by decide +kernel
theorem dX8_takeNumber_90 : decode cX8_takeNumber 90 = .ok (.return_, 1) := by decide +kernel
theorem dX8_isBlank_0 : decode cX8_isBlank 0 = .ok (.iload_n 0, 1) := by decide +kernel
theorem dX8_isBlank_1 : decode cX8_isBlank 1 = .ok (.bipush 32, 2) := by decide +kernel
theorem dX8_isBlank_3 : decode cX8_isBlank 3 = .ok (.if_icmp .eq 9, 3) := by decide +kernel
theorem dX8_isBlank_6 : decode cX8_isBlank 6 = .ok (.iload_n 0, 1) := by decide +kernel
theorem dX8_isBlank_7 : decode cX8_isBlank 7 = .ok (.bipush 10, 2) := by decide +kernel
theorem dX8_isBlank_9 : decode cX8_isBlank 9 = .ok (.if_icmp .ne 7, 3) := by decide +kernel
theorem dX8_isBlank_12 : decode cX8_isBlank 12 = .ok (.iconst 1, 1) := by decide +kernel
theorem dX8_isBlank_13 : decode cX8_isBlank 13 = .ok (.goto 4, 3) := by decide +kernel
theorem dX8_isBlank_16 : decode cX8_isBlank 16 = .ok (.iconst 0, 1) := by decide +kernel
theorem dX8_isBlank_17 : decode cX8_isBlank 17 = .ok (.ireturn, 1) := by decide +kernel
theorem dX8_isLetter_0 : decode cX8_isLetter 0 = .ok (.iload_n 0, 1) := by decide +kernel
theorem dX8_isLetter_1 : decode cX8_isLetter 1 = .ok (.bipush 97, 2) := by decide +kernel
theorem dX8_isLetter_3 : decode cX8_isLetter 3 = .ok (.if_icmp .lt 13, 3) := by decide +kernel
theorem dX8_isLetter_6 : decode cX8_isLetter 6 = .ok (.iload_n 0, 1) := by decide +kernel
theorem dX8_isLetter_7 : decode cX8_isLetter 7 = .ok (.bipush 122, 2) := by decide +kernel
theorem dX8_isLetter_9 : decode cX8_isLetter 9 = .ok (.if_icmp .gt 7, 3) := by decide +kernel
theorem dX8_isLetter_12 : decode cX8_isLetter 12 = .ok (.iconst 1, 1) := by decide +kernel
theorem dX8_isLetter_13 : decode cX8_isLetter 13 = .ok (.goto 4, 3) := by decide +kernel
theorem dX8_isLetter_16 : decode cX8_isLetter 16 = .ok (.iconst 0, 1) := by decide +kernel
theorem dX8_isLetter_17 : decode cX8_isLetter 17 = .ok (.ireturn, 1) := by decide +kernel
theorem dX8_isFigure_0 : decode cX8_isFigure 0 = .ok (.iload_n 0, 1) := by decide +kernel
theorem dX8_isFigure_1 : decode cX8_isFigure 1 = .ok (.bipush 48, 2) := by decide +kernel
theorem dX8_isFigure_3 : decode cX8_isFigure 3 = .ok (.if_icmp .lt 13, 3) := by decide +kernel
theorem dX8_isFigure_6 : decode cX8_isFigure 6 = .ok (.iload_n 0, 1) := by decide +kernel
theorem dX8_isFigure_7 : decode cX8_isFigure 7 = .ok (.bipush 57, 2) := by decide +kernel
theorem dX8_isFigure_9 : decode cX8_isFigure 9 = .ok (.if_icmp .gt 7, 3) := by decide +kernel
theorem dX8_isFigure_12 : decode cX8_isFigure 12 = .ok (.iconst 1, 1) := by decide +kernel
theorem dX8_isFigure_13 : decode cX8_isFigure 13 = .ok (.goto 4, 3) := by decide +kernel
theorem dX8_isFigure_16 : decode cX8_isFigure 16 = .ok (.iconst 0, 1) := by decide +kernel
theorem dX8_isFigure_17 : decode cX8_isFigure 17 = .ok (.ireturn, 1) := by decide +kernel
theorem dX9_init_0 : decode cX9_init 0 = .ok (.aload_n 0, 1) := by decide +kernel
theorem dX9_init_1 : decode cX9_init 1 = .ok (.invokespecial 3, 3) := by decide +kernel
theorem dX9_init_4 : decode cX9_init 4 = .ok (.aload_n 0, 1) := by decide +kernel
theorem dX9_init_5 : decode cX9_init 5 = .ok (.iconst 0, 1) := by decide +kernel
theorem dX9_init_6 : decode cX9_init 6 = .ok (.putfield 9, 3) := by decide +kernel
theorem dX9_init_9 : decode cX9_init 9 = .ok (.aload_n 0, 1) := by decide +kernel
theorem dX9_init_10 : decode cX9_init 10 = .ok (.iconst 0, 1) := by decide +kernel
theorem dX9_init_11 : decode cX9_init 11 = .ok (.putfield 15, 3) := by decide +kernel
theorem dX9_init_14 : decode cX9_init 14 = .ok (.aload_n 0, 1) := by decide +kernel
theorem dX9_init_15 : decode cX9_init 15 = .ok (.iconst 0, 1) := by decide +kernel
theorem dX9_init_16 : decode cX9_init 16 = .ok (.putfield 19, 3) := by decide +kernel
theorem dX9_init_19 : decode cX9_init 19 = .ok (.aload_n 0, 1) := by decide +kernel
theorem dX9_init_20 : decode cX9_init 20 = .ok (.iconst 0, 1) := by decide +kernel
theorem dX9_init_21 : decode cX9_init 21 = .ok (.putfield 22, 3) := by decide +kernel
theorem dX9_init_24 : decode cX9_init 24 = .ok (.aload_n 0, 1) := by decide +kernel
theorem dX9_init_25 : decode cX9_init 25 = .ok (.iconst 0, 1) := by decide +kernel
theorem dX9_init_26 : decode cX9_init 26 = .ok (.putfield 25, 3) := by decide +kernel
theorem dX9_init_29 : decode cX9_init 29 = .ok (.aload_n 0, 1) := by decide +kernel
theorem dX9_init_30 : decode cX9_init 30 = .ok (.iconst 5, 1) := by decide +kernel
theorem dX9_init_31 : decode cX9_init 31 = .ok (.newarray .int, 2) := by decide +kernel
theorem dX9_init_33 : decode cX9_init 33 = .ok (.putfield 28, 3) := by decide +kernel
theorem dX9_init_36 : decode cX9_init 36 = .ok (.aload_n 0, 1) := by decide +kernel
theorem dX9_init_37 : decode cX9_init 37 = .ok (.iconst 5, 1) := by decide +kernel
theorem dX9_init_38 : decode cX9_init 38 = .ok (.newarray .int, 2) := by decide +kernel
theorem dX9_init_40 : decode cX9_init 40 = .ok (.putfield 32, 3) := by decide +kernel
theorem dX9_init_43 : decode cX9_init 43 = .ok (.aload_n 0, 1) := by decide +kernel
theorem dX9_init_44 : decode cX9_init 44 = .ok (.bipush 9, 2) := by decide +kernel
theorem dX9_init_46 : decode cX9_init 46 = .ok (.newarray .int, 2) := by decide +kernel
theorem dX9_init_48 : decode cX9_init 48 = .ok (.putfield 35, 3) := by decide +kernel
theorem dX9_init_51 : decode cX9_init 51 = .ok (.aload_n 0, 1) := by decide +kernel
theorem dX9_init_52 : decode cX9_init 52 = .ok (.bipush 9, 2) := by decide +kernel
theorem dX9_init_54 : decode cX9_init 54 = .ok (.newarray .int, 2) := by decide +kernel
theorem dX9_init_56 : decode cX9_init 56 = .ok (.putfield 38, 3) := by decide +kernel
theorem dX9_init_59 : decode cX9_init 59 = .ok (.aload_n 0, 1) := by decide +kernel
theorem dX9_init_60 : decode cX9_init 60 = .ok (.bipush 9, 2) := by decide +kernel
theorem dX9_init_62 : decode cX9_init 62 = .ok (.newarray .int, 2) := by decide +kernel
theorem dX9_init_64 : decode cX9_init 64 = .ok (.putfield 41, 3) := by decide +kernel
theorem dX9_init_67 : decode cX9_init 67 = .ok (.aload_n 0, 1) := by decide +kernel
theorem dX9_init_68 : decode cX9_init 68 = .ok (.bipush 36, 2) := by decide +kernel
theorem dX9_init_70 : decode cX9_init 70 = .ok (.newarray .int, 2) := by decide +kernel
theorem dX9_init_72 : decode cX9_init 72 = .ok (.putfield 44, 3) := by decide +kernel
theorem dX9_init_75 : decode cX9_init 75 = .ok (.return_, 1) := by decide +kernel
theorem dX9_begin_0 : decode cX9_begin 0 = .ok (.aload_n 0, 1) := by decide +kernel
theorem dX9_begin_1 : decode cX9_begin 1 = .ok (.iconst 1, 1) := by decide +kernel
theorem dX9_begin_2 : decode cX9_begin 2 = .ok (.putfield 9, 3) := by decide +kernel
theorem dX9_begin_5 : decode cX9_begin 5 = .ok (.aload_n 0, 1) := by decide +kernel
theorem dX9_begin_6 : decode cX9_begin 6 = .ok (.iconst 0, 1) := by decide +kernel
theorem dX9_begin_7 : decode cX9_begin 7 = .ok (.putfield 22, 3) := by decide +kernel
theorem dX9_begin_10 : decode cX9_begin 10 = .ok (.aload_n 0, 1) := by decide +kernel
theorem dX9_begin_11 : decode cX9_begin 11 = .ok (.iconst 0, 1) := by decide +kernel
theorem dX9_begin_12 : decode cX9_begin 12 = .ok (.putfield 25, 3) := by decide +kernel
theorem dX9_begin_15 : decode cX9_begin 15 = .ok (.iconst 0, 1) := by decide +kernel
theorem dX9_begin_16 : decode cX9_begin 16 = .ok (.istore_n 1, 1) := by decide +kernel
theorem dX9_begin_17 : decode cX9_begin 17 = .ok (.iload_n 1, 1) := by decide +kernel
theorem dX9_begin_18 : decode cX9_begin 18 = .ok (.bipush 9, 2) := by decide +kernel
theorem dX9_begin_20 : decode cX9_begin 20 = .ok (.if_icmp .ge 48, 3) := by decide +kernel
theorem dX9_begin_23 : decode cX9_begin 23 = .ok (.aload_n 0, 1) := by decide +kernel
theorem dX9_begin_24 : decode cX9_begin 24 = .ok (.getfield 44, 3) := by decide +kernel
theorem dX9_begin_27 : decode cX9_begin 27 = .ok (.iconst 0, 1) := by decide +kernel
theorem dX9_begin_28 : decode cX9_begin 28 = .ok (.iload_n 1, 1) := by decide +kernel
theorem dX9_begin_29 : decode cX9_begin 29 = .ok (.iadd, 1) := by decide +kernel
theorem dX9_begin_30 : decode cX9_begin 30 = .ok (.iconst (-1), 1) := by decide +kernel
theorem dX9_begin_31 : decode cX9_begin 31 = .ok (.iastore, 1) := by decide +kernel
theorem dX9_begin_32 : decode cX9_begin 32 = .ok (.aload_n 0, 1) := by decide +kernel
theorem dX9_begin_33 : decode cX9_begin 33 = .ok (.getfield 44, 3) := by decide +kernel
theorem dX9_begin_36 : decode cX9_begin 36 = .ok (.bipush 9, 2) := by decide +kernel
theorem dX9_begin_38 : decode cX9_begin 38 = .ok (.iload_n 1, 1) := by decide +kernel
theorem dX9_begin_39 : decode cX9_begin 39 = .ok (.iadd, 1) := by decide +kernel
theorem dX9_begin_40 : decode cX9_begin 40 = .ok (.iconst 0, 1) := by decide +kernel
theorem dX9_begin_41 : decode cX9_begin 41 = .ok (.iastore, 1) := by decide +kernel
theorem dX9_begin_42 : decode cX9_begin 42 = .ok (.aload_n 0, 1) := by decide +kernel
theorem dX9_begin_43 : decode cX9_begin 43 = .ok (.getfield 44, 3) := by decide +kernel
theorem dX9_begin_46 : decode cX9_begin 46 = .ok (.bipush 18, 2) := by decide +kernel
theorem dX9_begin_48 : decode cX9_begin 48 = .ok (.iload_n 1, 1) := by decide +kernel
theorem dX9_begin_49 : decode cX9_begin 49 = .ok (.iadd, 1) := by decide +kernel
theorem dX9_begin_50 : decode cX9_begin 50 = .ok (.iconst 0, 1) := by decide +kernel
theorem dX9_begin_51 : decode cX9_begin 51 = .ok (.iastore, 1) := by decide +kernel
theorem dX9_begin_52 : decode cX9_begin 52 = .ok (.aload_n 0, 1) := by decide +kernel
theorem dX9_begin_53 : decode cX9_begin 53 = .ok (.getfield 44, 3) := by decide +kernel
theorem dX9_begin_56 : decode cX9_begin 56 = .ok (.bipush 27, 2) := by decide +kernel
theorem dX9_begin_58 : decode cX9_begin 58 = .ok (.iload_n 1, 1) := by decide +kernel
theorem dX9_begin_59 : decode cX9_begin 59 = .ok (.iadd, 1) := by decide +kernel
theorem dX9_begin_60 : decode cX9_begin 60 = .ok (.iconst 0, 1) := by decide +kernel
theorem dX9_begin_61 : decode cX9_begin 61 = .ok (.iastore, 1) := by decide +kernel
theorem dX9_begin_62 : decode cX9_begin 62 = .ok (.iinc 1 1, 3) := by decide +kernel
theorem dX9_begin_65 : decode cX9_begin 65 = .ok (.goto (-48), 3) := by decide +kernel
theorem dX9_begin_68 : decode cX9_begin 68 = .ok (.return_, 1) := by decide +kernel
theorem dX9_becomeAs_0 : decode cX9_becomeAs 0 = .ok (.aload_n 0, 1) := by decide +kernel
theorem dX9_becomeAs_1 : decode cX9_becomeAs 1 = .ok (.aload_n 1, 1) := by decide +kernel
theorem dX9_becomeAs_2 : decode cX9_becomeAs 2 = .ok (.getfield 9, 3) := by decide +kernel
theorem dX9_becomeAs_5 : decode cX9_becomeAs 5 = .ok (.putfield 9, 3) := by decide +kernel
theorem dX9_becomeAs_8 : decode cX9_becomeAs 8 = .ok (.aload_n 0, 1) := by decide +kernel
theorem dX9_becomeAs_9 : decode cX9_becomeAs 9 = .ok (.aload_n 1, 1) := by decide +kernel
theorem dX9_becomeAs_10 : decode cX9_becomeAs 10 = .ok (.getfield 15, 3) := by decide +kernel
theorem dX9_becomeAs_13 : decode cX9_becomeAs 13 = .ok (.putfield 15, 3) := by decide +kernel
theorem dX9_becomeAs_16 : decode cX9_becomeAs 16 = .ok (.aload_n 0, 1) := by decide +kernel
theorem dX9_becomeAs_17 : decode cX9_becomeAs 17 = .ok (.aload_n 1, 1) := by decide +kernel
theorem dX9_becomeAs_18 : decode cX9_becomeAs 18 = .ok (.getfield 19, 3) := by decide +kernel
theorem dX9_becomeAs_21 : decode cX9_becomeAs 21 = .ok (.putfield 19, 3) := by decide +kernel
theorem dX9_becomeAs_24 : decode cX9_becomeAs 24 = .ok (.aload_n 0, 1) := by decide +kernel
theorem dX9_becomeAs_25 : decode cX9_becomeAs 25 = .ok (.aload_n 1, 1) := by decide +kernel
theorem dX9_becomeAs_26 : decode cX9_becomeAs 26 = .ok (.getfield 22, 3) := by decide +kernel
theorem dX9_becomeAs_29 : decode cX9_becomeAs 29 = .ok (.putfield 22, 3) := by decide +kernel
theorem dX9_becomeAs_32 : decode cX9_becomeAs 32 = .ok (.aload_n 0, 1) := by decide +kernel
theorem dX9_becomeAs_33 : decode cX9_becomeAs 33 = .ok (.aload_n 1, 1) := by decide +kernel
theorem dX9_becomeAs_34 : decode cX9_becomeAs 34 = .ok (.getfield 25, 3) := by decide +kernel
theorem dX9_becomeAs_37 : decode cX9_becomeAs 37 = .ok (.putfield 25, 3) := by decide +kernel
theorem dX9_becomeAs_40 : decode cX9_becomeAs 40 = .ok (.aload_n 1, 1) := by decide +kernel
theorem dX9_becomeAs_41 : decode cX9_becomeAs 41 = .ok (.getfield 28, 3) := by decide +kernel
theorem dX9_becomeAs_44 : decode cX9_becomeAs 44 = .ok (.iconst 0, 1) := by decide +kernel
theorem dX9_becomeAs_45 : decode cX9_becomeAs 45 = .ok (.aload_n 0, 1) := by decide +kernel
theorem dX9_becomeAs_46 : decode cX9_becomeAs 46 = .ok (.getfield 28, 3) := by decide +kernel
theorem dX9_becomeAs_49 : decode cX9_becomeAs 49 = .ok (.iconst 0, 1) := by decide +kernel
theorem dX9_becomeAs_50 : decode cX9_becomeAs 50 = .ok (.iconst 5, 1) := by decide +kernel
theorem dX9_becomeAs_51 : decode cX9_becomeAs 51 = .ok (.invokestatic 47, 3) := by decide +kernel
theorem dX9_becomeAs_54 : decode cX9_becomeAs 54 = .ok (.aload_n 1, 1) := by decide +kernel
theorem dX9_becomeAs_55 : decode cX9_becomeAs 55 = .ok (.getfield 32, 3) := by decide +kernel
theorem dX9_becomeAs_58 : decode cX9_becomeAs 58 = .ok (.iconst 0, 1) := by decide +kernel
theorem dX9_becomeAs_59 : decode cX9_becomeAs 59 = .ok (.aload_n 0, 1) := by decide +kernel
theorem dX9_becomeAs_60 : decode cX9_becomeAs 60 = .ok (.getfield 32, 3) := by decide +kernel
theorem dX9_becomeAs_63 : decode cX9_becomeAs 63 = .ok (.iconst 0, 1) := by decide +kernel
theorem dX9_becomeAs_64 : decode cX9_becomeAs 64 = .ok (.iconst 5, 1) := by decide +kernel
theorem dX9_becomeAs_65 : decode cX9_becomeAs 65 = .ok (.invokestatic 47, 3) := by decide +kernel
theorem dX9_becomeAs_68 : decode cX9_becomeAs 68 = .ok (.aload_n 1, 1) := by decide +kernel
theorem dX9_becomeAs_69 : decode cX9_becomeAs 69 = .ok (.getfield 35, 3) := by decide +kernel
theorem dX9_becomeAs_72 : decode cX9_becomeAs 72 = .ok (.iconst 0, 1) := by decide +kernel
theorem dX9_becomeAs_73 : decode cX9_becomeAs 73 = .ok (.aload_n 0, 1) := by decide +kernel
theorem dX9_becomeAs_74 : decode cX9_becomeAs 74 = .ok (.getfield 35, 3) := by decide +kernel
theorem dX9_becomeAs_77 : decode cX9_becomeAs 77 = .ok (.iconst 0, 1) := by decide +kernel
theorem dX9_becomeAs_78 : decode cX9_becomeAs 78 = .ok (.bipush 9, 2) := by decide +kernel
theorem dX9_becomeAs_80 : decode cX9_becomeAs 80 = .ok (.invokestatic 47, 3) := by decide +kernel
theorem dX9_becomeAs_83 : decode cX9_becomeAs 83 = .ok (.aload_n 1, 1) := by decide +kernel
theorem dX9_becomeAs_84 : decode cX9_becomeAs 84 = .ok (.getfield 38, 3) := by decide +kernel
theorem dX9_becomeAs_87 : decode cX9_becomeAs 87 = .ok (.iconst 0, 1) := by decide +kernel
theorem dX9_becomeAs_88 : decode cX9_becomeAs 88 = .ok (.aload_n 0, 1) := by decide +kernel
theorem dX9_becomeAs_89 : decode cX9_becomeAs 89 = .ok (.getfield 38, 3) := by decide +kernel
theorem dX9_becomeAs_92 : decode cX9_becomeAs 92 = .ok (.iconst 0, 1) := by decide +kernel
theorem dX9_becomeAs_93 : decode cX9_becomeAs 93 = .ok (.bipush 9, 2) := by decide +kernel
theorem dX9_becomeAs_95 : decode cX9_becomeAs 95 = .ok (.invokestatic 47, 3) := by decide +kernel
theorem dX9_becomeAs_98 : decode cX9_becomeAs 98 = .ok (.aload_n 1, 1) := by decide +kernel
theorem dX9_becomeAs_99 : decode cX9_becomeAs 99 = .ok (.getfield 41, 3) := by decide +kernel
theorem dX9_becomeAs_102 : decode cX9_becomeAs 102 = .ok (.iconst 0, 1) := by decide +kernel
theorem dX9_becomeAs_103 : decode cX9_becomeAs 103 = .ok (.aload_n 0, 1) := by decide +kernel
theorem dX9_becomeAs_104 : decode cX9_becomeAs 104 = .ok (.getfield 41, 3) := by decide +kernel
theorem dX9_becomeAs_107 : decode cX9_becomeAs 107 = .ok (.iconst 0, 1) := by decide +kernel
theorem dX9_becomeAs_108 : decode cX9_becomeAs 108 = .ok (.bipush 9, 2) := by decide +kernel
theorem dX9_becomeAs_110 : decode cX9_becomeAs 110 = .ok (.invokestatic 47, 3) := by decide +kernel
theorem dX9_becomeAs_113 : decode cX9_becomeAs 113 = .ok (.aload_n 1, 1) := by decide +kernel
theorem dX9_becomeAs_114 : decode cX9_becomeAs 114 = .ok (.getfield 44, 3) := by decide +kernel
theorem dX9_becomeAs_117 : decode cX9_becomeAs 117 = .ok (.iconst 0, 1) := by decide +kernel
theorem dX9_becomeAs_118 : decode cX9_becomeAs 118 = .ok (.aload_n 0, 1) := by decide +kernel
theorem dX9_becomeAs_119 : decode cX9_becomeAs 119 = .ok (.getfield 44, 3) := by decide +kernel
theorem dX9_becomeAs_122 : decode cX9_becomeAs 122 = .ok (.iconst 0, 1) := by decide +kernel
theorem dX9_becomeAs_123 : decode cX9_becomeAs 123 = .ok (.bipush 36, 2) := by decide +kernel
theorem dX9_becomeAs_125 : decode cX9_becomeAs 125 = .ok (.invokestatic 47, 3) := by decide +kernel
theorem dX9_becomeAs_128 : decode cX9_becomeAs 128 = .ok (.return_, 1) := by decide +kernel
theorem dX9_hasYarn_0 : decode cX9_hasYarn 0 = .ok (.iload_n 1, 1) := by decide +kernel
theorem dX9_hasYarn_1 : decode cX9_hasYarn 1 = .ok (.ifCond .lt 15, 3) := by decide +kernel
theorem dX9_hasYarn_4 : decode cX9_hasYarn 4 = .ok (.iload_n 1, 1) := by decide +kernel
theorem dX9_hasYarn_5 : decode cX9_hasYarn 5 = .ok (.aload_n 0, 1) := by decide +kernel
theorem dX9_hasYarn_6 : decode cX9_hasYarn 6 = .ok (.getfield 25, 3) := by decide +kernel
theorem dX9_hasYarn_9 : decode cX9_hasYarn 9 = .ok (.if_icmp .ge 7, 3) := by decide +kernel
theorem dX9_hasYarn_12 : decode cX9_hasYarn 12 = .ok (.iconst 1, 1) := by decide +kernel
theorem dX9_hasYarn_13 : decode cX9_hasYarn 13 = .ok (.goto 4, 3) := by decide +kernel
theorem dX9_hasYarn_16 : decode cX9_hasYarn 16 = .ok (.iconst 0, 1) := by decide +kernel
theorem dX9_hasYarn_17 : decode cX9_hasYarn 17 = .ok (.ireturn, 1) := by decide +kernel
theorem dX9_isLaid_0 : decode cX9_isLaid 0 = .ok (.aload_n 0, 1) := by decide +kernel
theorem dX9_isLaid_1 : decode cX9_isLaid 1 = .ok (.getfield 44, 3) := by decide +kernel
theorem dX9_isLaid_4 : decode cX9_isLaid 4 = .ok (.iconst 0, 1) := by decide +kernel
theorem dX9_isLaid_5 : decode cX9_isLaid 5 = .ok (.iload_n 1, 1) := by decide +kernel
theorem dX9_isLaid_6 : decode cX9_isLaid 6 = .ok (.iadd, 1) := by decide +kernel
theorem dX9_isLaid_7 : decode cX9_isLaid 7 = .ok (.iaload, 1) := by decide +kernel
theorem dX9_isLaid_8 : decode cX9_isLaid 8 = .ok (.iconst (-1), 1) := by decide +kernel
theorem dX9_isLaid_9 : decode cX9_isLaid 9 = .ok (.if_icmp .eq 7, 3) := by decide +kernel
theorem dX9_isLaid_12 : decode cX9_isLaid 12 = .ok (.iconst 1, 1) := by decide +kernel
theorem dX9_isLaid_13 : decode cX9_isLaid 13 = .ok (.goto 4, 3) := by decide +kernel
theorem dX9_isLaid_16 : decode cX9_isLaid 16 = .ok (.iconst 0, 1) := by decide +kernel
theorem dX9_isLaid_17 : decode cX9_isLaid 17 = .ok (.ireturn, 1) := by decide +kernel
theorem dX9_strength_0 : decode cX9_strength 0 = .ok (.aload_n 0, 1) := by decide +kernel
theorem dX9_strength_1 : decode cX9_strength 1 = .ok (.iload_n 1, 1) := by decide +kernel
theorem dX9_strength_2 : decode cX9_strength 2 = .ok (.aload_n 0, 1) := by decide +kernel
theorem dX9_strength_3 : decode cX9_strength 3 = .ok (.getfield 44, 3) := by decide +kernel
theorem dX9_strength_6 : decode cX9_strength 6 = .ok (.bipush 9, 2) := by decide +kernel
theorem dX9_strength_8 : decode cX9_strength 8 = .ok (.iload_n 1, 1) := by decide +kernel
theorem dX9_strength_9 : decode cX9_strength 9 = .ok (.iadd, 1) := by decide +kernel
theorem dX9_strength_10 : decode cX9_strength 10 = .ok (.iaload, 1) := by decide +kernel
theorem dX9_strength_11 : decode cX9_strength 11 = .ok (.invokevirtual 53, 3) := by decide +kernel
theorem dX9_strength_14 : decode cX9_strength 14 = .ok (.ireturn, 1) := by decide +kernel
theorem dX9_strengthIf_0 : decode cX9_strengthIf 0 = .ok (.iload_n 2, 1) := by decide +kernel
theorem dX9_strengthIf_1 : decode cX9_strengthIf 1 = .ok (.iconst 2, 1) := by decide +kernel
theorem dX9_strengthIf_2 : decode cX9_strengthIf 2 = .ok (.if_icmp .ne 5, 3) := by decide +kernel
theorem dX9_strengthIf_5 : decode cX9_strengthIf 5 = .ok (.iconst 0, 1) := by decide +kernel
theorem dX9_strengthIf_6 : decode cX9_strengthIf 6 = .ok (.ireturn, 1) := by decide +kernel
theorem dX9_strengthIf_7 : decode cX9_strengthIf 7 = .ok (.aload_n 0, 1) := by decide +kernel
theorem dX9_strengthIf_8 : decode cX9_strengthIf 8 = .ok (.getfield 15, 3) := by decide +kernel
theorem dX9_strengthIf_11 : decode cX9_strengthIf 11 = .ok (.aload_n 0, 1) := by decide +kernel
theorem dX9_strengthIf_12 : decode cX9_strengthIf 12 = .ok (.getfield 41, 3) := by decide +kernel
theorem dX9_strengthIf_15 : decode cX9_strengthIf 15 = .ok (.iload_n 1, 1) := by decide +kernel
theorem dX9_strengthIf_16 : decode cX9_strengthIf 16 = .ok (.iaload, 1) := by decide +kernel
theorem dX9_strengthIf_17 : decode cX9_strengthIf 17 = .ok (.imul, 1) := by decide +kernel
theorem dX9_strengthIf_18 : decode cX9_strengthIf 18 = .ok (.istore_n 3, 1) := by decide +kernel
theorem dX9_strengthIf_19 : decode cX9_strengthIf 19 = .ok (.aload_n 0, 1) := by decide +kernel
theorem dX9_strengthIf_20 : decode cX9_strengthIf 20 = .ok (.getfield 35, 3) := by decide +kernel
theorem dX9_strengthIf_23 : decode cX9_strengthIf 23 = .ok (.iload_n 1, 1) := by decide +kernel
theorem dX9_strengthIf_24 : decode cX9_strengthIf 24 = .ok (.iaload, 1) := by decide +kernel
theorem dX9_strengthIf_25 : decode cX9_strengthIf 25 = .ok (.iconst 2, 1) := by decide +kernel
theorem dX9_strengthIf_26 : decode cX9_strengthIf 26 = .ok (.if_icmp .eq 13, 3) := by decide +kernel
theorem dX9_strengthIf_29 : decode cX9_strengthIf 29 = .ok (.aload_n 0, 1) := by decide +kernel
theorem dX9_strengthIf_30 : decode cX9_strengthIf 30 = .ok (.getfield 35, 3) := by decide +kernel
theorem dX9_strengthIf_33 : decode cX9_strengthIf 33 = .ok (.iload_n 1, 1) := by decide +kernel
theorem dX9_strengthIf_34 : decode cX9_strengthIf 34 = .ok (.iaload, 1) := by decide +kernel
theorem dX9_strengthIf_35 : decode cX9_strengthIf 35 = .ok (.iconst 3, 1) := by decide +kernel
theorem dX9_strengthIf_36 : decode cX9_strengthIf 36 = .ok (.if_icmp .ne 9, 3) := by decide +kernel
theorem dX9_strengthIf_39 : decode cX9_strengthIf 39 = .ok (.iload_n 3, 1) := by decide +kernel
theorem dX9_strengthIf_40 : decode cX9_strengthIf 40 = .ok (.iload_n 3, 1) := by decide +kernel
theorem dX9_strengthIf_41 : decode cX9_strengthIf 41 = .ok (.iconst 2, 1) := by decide +kernel
theorem dX9_strengthIf_42 : decode cX9_strengthIf 42 = .ok (.idiv, 1) := by decide +kernel
theorem dX9_strengthIf_43 : decode cX9_strengthIf 43 = .ok (.iadd, 1) := by decide +kernel
theorem dX9_strengthIf_44 : decode cX9_strengthIf 44 = .ok (.istore_n 3, 1) := by decide +kernel
theorem dX9_strengthIf_45 : decode cX9_strengthIf 45 = .ok (.aload_n 0, 1) := by decide +kernel
theorem dX9_strengthIf_46 : decode cX9_strengthIf 46 = .ok (.getfield 35, 3) := by decide +kernel
theorem dX9_strengthIf_49 : decode cX9_strengthIf 49 = .ok (.iload_n 1, 1) := by decide +kernel
theorem dX9_strengthIf_50 : decode cX9_strengthIf 50 = .ok (.iaload, 1) := by decide +kernel
theorem dX9_strengthIf_51 : decode cX9_strengthIf 51 = .ok (.iconst 4, 1) := by decide +kernel
theorem dX9_strengthIf_52 : decode cX9_strengthIf 52 = .ok (.if_icmp .eq 13, 3) := by decide +kernel
theorem dX9_strengthIf_55 : decode cX9_strengthIf 55 = .ok (.aload_n 0, 1) := by decide +kernel
theorem dX9_strengthIf_56 : decode cX9_strengthIf 56 = .ok (.getfield 35, 3) := by decide +kernel
theorem dX9_strengthIf_59 : decode cX9_strengthIf 59 = .ok (.iload_n 1, 1) := by decide +kernel
theorem dX9_strengthIf_60 : decode cX9_strengthIf 60 = .ok (.iaload, 1) := by decide +kernel
theorem dX9_strengthIf_61 : decode cX9_strengthIf 61 = .ok (.iconst 5, 1) := by decide +kernel
theorem dX9_strengthIf_62 : decode cX9_strengthIf 62 = .ok (.if_icmp .ne 7, 3) := by decide +kernel
theorem dX9_strengthIf_65 : decode cX9_strengthIf 65 = .ok (.iload_n 3, 1) := by decide +kernel
theorem dX9_strengthIf_66 : decode cX9_strengthIf 66 = .ok (.iconst 2, 1) := by decide +kernel
theorem dX9_strengthIf_67 : decode cX9_strengthIf 67 = .ok (.idiv, 1) := by decide +kernel
theorem dX9_strengthIf_68 : decode cX9_strengthIf 68 = .ok (.istore_n 3, 1) := by decide +kernel
theorem dX9_strengthIf_69 : decode cX9_strengthIf 69 = .ok (.aload_n 0, 1) := by decide +kernel
theorem dX9_strengthIf_70 : decode cX9_strengthIf 70 = .ok (.getfield 35, 3) := by decide +kernel
theorem dX9_strengthIf_73 : decode cX9_strengthIf 73 = .ok (.iload_n 1, 1) := by decide +kernel
theorem dX9_strengthIf_74 : decode cX9_strengthIf 74 = .ok (.iaload, 1) := by decide +kernel
theorem dX9_strengthIf_75 : decode cX9_strengthIf 75 = .ok (.iconst 3, 1) := by decide +kernel
theorem dX9_strengthIf_76 : decode cX9_strengthIf 76 = .ok (.if_icmp .ne 17, 3) := by decide +kernel
theorem dX9_strengthIf_79 : decode cX9_strengthIf 79 = .ok (.iload_n 3, 1) := by decide +kernel
theorem dX9_strengthIf_80 : decode cX9_strengthIf 80 = .ok (.aload_n 0, 1) := by decide +kernel
theorem dX9_strengthIf_81 : decode cX9_strengthIf 81 = .ok (.getfield 32, 3) := by decide +kernel
theorem dX9_strengthIf_84 : decode cX9_strengthIf 84 = .ok (.aload_n 0, 1) := by decide +kernel
theorem dX9_strengthIf_85 : decode cX9_strengthIf 85 = .ok (.getfield 38, 3) := by decide +kernel
theorem dX9_strengthIf_88 : decode cX9_strengthIf 88 = .ok (.iload_n 1, 1) := by decide +kernel
theorem dX9_strengthIf_89 : decode cX9_strengthIf 89 = .ok (.iaload, 1) := by decide +kernel
theorem dX9_strengthIf_90 : decode cX9_strengthIf 90 = .ok (.iaload, 1) := by decide +kernel
theorem dX9_strengthIf_91 : decode cX9_strengthIf 91 = .ok (.iadd, 1) := by decide +kernel
theorem dX9_strengthIf_92 : decode cX9_strengthIf 92 = .ok (.istore_n 3, 1) := by decide +kernel
theorem dX9_strengthIf_93 : decode cX9_strengthIf 93 = .ok (.aload_n 0, 1) := by decide +kernel
theorem dX9_strengthIf_94 : decode cX9_strengthIf 94 = .ok (.getfield 44, 3) := by decide +kernel
theorem dX9_strengthIf_97 : decode cX9_strengthIf 97 = .ok (.bipush 27, 2) := by decide +kernel
theorem dX9_strengthIf_99 : decode cX9_strengthIf 99 = .ok (.iload_n 1, 1) := by decide +kernel
theorem dX9_strengthIf_100 : decode cX9_strengthIf 100 = .ok (.iadd, 1) := by decide +kernel
theorem dX9_strengthIf_101 : decode cX9_strengthIf 101 = .ok (.iaload, 1) := by decide +kernel
theorem dX9_strengthIf_102 : decode cX9_strengthIf 102 = .ok (.ifCond .eq 10, 3) := by decide +kernel
theorem dX9_strengthIf_105 : decode cX9_strengthIf 105 = .ok (.iload_n 3, 1) := by decide +kernel
theorem dX9_strengthIf_106 : decode cX9_strengthIf 106 = .ok (.aload_n 0, 1) := by decide +kernel
theorem dX9_strengthIf_107 : decode cX9_strengthIf 107 = .ok (.getfield 19, 3) := by decide +kernel
theorem dX9_strengthIf_110 : decode cX9_strengthIf 110 = .ok (.iadd, 1) := by decide +kernel
theorem dX9_strengthIf_111 : decode cX9_strengthIf 111 = .ok (.istore_n 3, 1) := by decide +kernel
theorem dX9_strengthIf_112 : decode cX9_strengthIf 112 = .ok (.iload_n 2, 1) := by decide +kernel
theorem dX9_strengthIf_113 : decode cX9_strengthIf 113 = .ok (.iconst 1, 1) := by decide +kernel
theorem dX9_strengthIf_114 : decode cX9_strengthIf 114 = .ok (.if_icmp .ne 9, 3) := by decide +kernel
theorem dX9_strengthIf_117 : decode cX9_strengthIf 117 = .ok (.iload_n 3, 1) := by decide +kernel
theorem dX9_strengthIf_118 : decode cX9_strengthIf 118 = .ok (.iload_n 3, 1) := by decide +kernel
theorem dX9_strengthIf_119 : decode cX9_strengthIf 119 = .ok (.iconst 2, 1) := by decide +kernel
theorem dX9_strengthIf_120 : decode cX9_strengthIf 120 = .ok (.idiv, 1) := by decide +kernel
theorem dX9_strengthIf_121 : decode cX9_strengthIf 121 = .ok (.iadd, 1) := by decide +kernel
theorem dX9_strengthIf_122 : decode cX9_strengthIf 122 = .ok (.istore_n 3, 1) := by decide +kernel
theorem dX9_strengthIf_123 : decode cX9_strengthIf 123 = .ok (.iconst 0, 1) := by decide +kernel
theorem dX9_strengthIf_124 : decode cX9_strengthIf 124 = .ok (.iload_n 3, 1) := by decide +kernel
theorem dX9_strengthIf_125 : decode cX9_strengthIf 125 = .ok (.aload_n 0, 1) := by decide +kernel
theorem dX9_strengthIf_126 : decode cX9_strengthIf 126 = .ok (.getfield 44, 3) := by decide +kernel
theorem dX9_strengthIf_129 : decode cX9_strengthIf 129 = .ok (.bipush 18, 2) := by decide +kernel
theorem dX9_strengthIf_131 : decode cX9_strengthIf 131 = .ok (.iload_n 1, 1) := by decide +kernel
theorem dX9_strengthIf_132 : decode cX9_strengthIf 132 = .ok (.iadd, 1) := by decide +kernel
theorem dX9_strengthIf_133 : decode cX9_strengthIf 133 = .ok (.iaload, 1) := by decide +kernel
theorem dX9_strengthIf_134 : decode cX9_strengthIf 134 = .ok (.isub, 1) := by decide +kernel
theorem dX9_strengthIf_135 : decode cX9_strengthIf 135 = .ok (.invokestatic 59, 3) := by decide +kernel
theorem dX9_strengthIf_138 : decode cX9_strengthIf 138 = .ok (.ireturn, 1) := by decide +kernel
theorem dX9_strandBears_0 : decode cX9_strandBears 0 = .ok (.aload_n 0, 1) := by decide +kernel
theorem dX9_strandBears_1 : decode cX9_strandBears 1 = .ok (.iload_n 1, 1) := by decide +kernel
theorem dX9_strandBears_2 : decode cX9_strandBears 2 = .ok (.iconst (-1), 1) := by decide +kernel
theorem dX9_strandBears_3 : decode cX9_strandBears 3 = .ok (.invokevirtual 64, 3) := by decide +kernel
theorem dX9_strandBears_6 : decode cX9_strandBears 6 = .ok (.ireturn, 1) := by decide +kernel
theorem dX9_ropeBears_0 : decode cX9_ropeBears 0 = .ok (.aload_n 0, 1) := by decide +kernel
theorem dX9_ropeBears_1 : decode cX9_ropeBears 1 = .ok (.iconst (-1), 1) := by decide +kernel
theorem dX9_ropeBears_2 : decode cX9_ropeBears 2 = .ok (.invokevirtual 67, 3) := by decide +kernel
theorem dX9_ropeBears_5 : decode cX9_ropeBears 5 = .ok (.ireturn, 1) := by decide +kernel
theorem dX9_ropeBearsWithout_0 : decode cX9_ropeBearsWithout 0 = .ok (.aload_n 0, 1) := by decide +kernel
theorem dX9_ropeBearsWithout_1 : decode cX9_ropeBearsWithout 1 = .ok (.iconst 0, 1) := by decide +kernel
theorem dX9_ropeBearsWithout_2 : decode cX9_ropeBearsWithout 2 = .ok (.iload_n 1, 1) := by decide +kernel
theorem dX9_ropeBearsWithout_3 : decode cX9_ropeBearsWithout 3 = .ok (.invokevirtual 64, 3) := by decide +kernel
theorem dX9_ropeBearsWithout_6 : decode cX9_ropeBearsWithout 6 = .ok (.istore_n 2, 1) := by decide +kernel
theorem dX9_ropeBearsWithout_7 : decode cX9_ropeBearsWithout 7 = .ok (.iconst 1, 1) := by decide +kernel
theorem dX9_ropeBearsWithout_8 : decode cX9_ropeBearsWithout 8 = .ok (.istore_n 3, 1) := by decide +kernel
theorem dX9_ropeBearsWithout_9 : decode cX9_ropeBearsWithout 9 = .ok (.iload_n 3, 1) := by decide +kernel
theorem dX9_ropeBearsWithout_10 : decode cX9_ropeBearsWithout 10 = .ok (.iconst 3, 1) := by decide +kernel
theorem dX9_ropeBearsWithout_11 : decode cX9_ropeBearsWithout 11 = .ok (.if_icmp .ge 20, 3) := by decide +kernel
theorem dX9_ropeBearsWithout_14 : decode cX9_ropeBearsWithout 14 = .ok (.iload_n 2, 1) := by decide +kernel
theorem dX9_ropeBearsWithout_15 : decode cX9_ropeBearsWithout 15 = .ok (.aload_n 0, 1) := by decide +kernel
theorem dX9_ropeBearsWithout_16 : decode cX9_ropeBearsWithout 16 = .ok (.iload_n 3, 1) := by decide +kernel
theorem dX9_ropeBearsWithout_17 : decode cX9_ropeBearsWithout 17 = .ok (.iload_n 1, 1) := by decide +kernel
theorem dX9_ropeBearsWithout_18 : decode cX9_ropeBearsWithout 18 = .ok (.invokevirtual 64, 3) := by decide +kernel
theorem dX9_ropeBearsWithout_21 : decode cX9_ropeBearsWithout 21 = .ok (.invokestatic 71, 3) := by decide +kernel
theorem dX9_ropeBearsWithout_24 : decode cX9_ropeBearsWithout 24 = .ok (.istore_n 2, 1) := by decide +kernel
theorem dX9_ropeBearsWithout_25 : decode cX9_ropeBearsWithout 25 = .ok (.iinc 3 1, 3) := by decide +kernel
theorem dX9_ropeBearsWithout_28 : decode cX9_ropeBearsWithout 28 = .ok (.goto (-19), 3) := by decide +kernel
theorem dX9_ropeBearsWithout_31 : decode cX9_ropeBearsWithout 31 = .ok (.iconst 3, 1) := by decide +kernel
theorem dX9_ropeBearsWithout_32 : decode cX9_ropeBearsWithout 32 = .ok (.iload_n 2, 1) := by decide +kernel
theorem dX9_ropeBearsWithout_33 : decode cX9_ropeBearsWithout 33 = .ok (.imul, 1) := by decide +kernel
theorem dX9_ropeBearsWithout_34 : decode cX9_ropeBearsWithout 34 = .ok (.ireturn, 1) := by decide +kernel
theorem dX9_strandBearsWithout_0 : decode cX9_strandBearsWithout 0 = .ok (.iconst 0, 1) := by decide +kernel
theorem dX9_strandBearsWithout_1 : decode cX9_strandBearsWithout 1 = .ok (.istore_n 3, 1) := by decide +kernel
theorem dX9_strandBearsWithout_2 : decode cX9_strandBearsWithout 2 = .ok (.iconst 0, 1) := by decide +kernel
theorem dX9_strandBearsWithout_3 : decode cX9_strandBearsWithout 3 = .ok (.istore 4, 2) := by decide +kernel
theorem dX9_strandBearsWithout_5 : decode cX9_strandBearsWithout 5 = .ok (.iload 4, 2) := by decide +kernel
theorem dX9_strandBearsWithout_7 : decode cX9_strandBearsWithout 7 = .ok (.aload_n 0, 1) := by decide +kernel
theorem dX9_strandBearsWithout_8 : decode cX9_strandBearsWithout 8 = .ok (.getfield 25, 3) := by decide +kernel
theorem dX9_strandBearsWithout_11 : decode cX9_strandBearsWithout 11 = .ok (.if_icmp .ge 37, 3) := by decide +kernel
theorem dX9_strandBearsWithout_14 : decode cX9_strandBearsWithout 14 = .ok (.aload_n 0, 1) := by decide +kernel
theorem dX9_strandBearsWithout_15 : decode cX9_strandBearsWithout 15 = .ok (.getfield 44, 3) := by decide +kernel
theorem dX9_strandBearsWithout_18 : decode cX9_strandBearsWithout 18 = .ok (.iconst 0, 1) := by decide +kernel
theorem dX9_strandBearsWithout_19 : decode cX9_strandBearsWithout 19 = .ok (.iload 4, 2) := by decide +kernel
theorem dX9_strandBearsWithout_21 : decode cX9_strandBearsWithout 21 = .ok (.iadd, 1) := by decide +kernel
theorem dX9_strandBearsWithout_22 : decode cX9_strandBearsWithout 22 = .ok (.iaload, 1) := by decide +kernel
theorem dX9_strandBearsWithout_23 : decode cX9_strandBearsWithout 23 = .ok (.iload_n 1, 1) := by decide +kernel
theorem dX9_strandBearsWithout_24 : decode cX9_strandBearsWithout 24 = .ok (.if_icmp .ne 18, 3) := by decide +kernel
theorem dX9_strandBearsWithout_27 : decode cX9_strandBearsWithout 27 = .ok (.iload 4, 2) := by decide +kernel
theorem dX9_strandBearsWithout_29 : decode cX9_strandBearsWithout 29 = .ok (.iload_n 2, 1) := by decide +kernel
theorem dX9_strandBearsWithout_30 : decode cX9_strandBearsWithout 30 = .ok (.if_icmp .eq 12, 3) := by decide +kernel
theorem dX9_strandBearsWithout_33 : decode cX9_strandBearsWithout 33 = .ok (.iload_n 3, 1) := by decide +kernel
theorem dX9_strandBearsWithout_34 : decode cX9_strandBearsWithout 34 = .ok (.aload_n 0, 1) := by decide +kernel
theorem dX9_strandBearsWithout_35 : decode cX9_strandBearsWithout 35 = .ok (.iload 4, 2) := by decide +kernel
theorem dX9_strandBearsWithout_37 : decode cX9_strandBearsWithout 37 = .ok (.invokevirtual 74, 3) := by decide +kernel
theorem dX9_strandBearsWithout_40 : decode cX9_strandBearsWithout 40 = .ok (.iadd, 1) := by decide +kernel
theorem dX9_strandBearsWithout_41 : decode cX9_strandBearsWithout 41 = .ok (.istore_n 3, 1) := by decide +kernel
theorem dX9_strandBearsWithout_42 : decode cX9_strandBearsWithout 42 = .ok (.iinc 4 1, 3) := by decide +kernel
theorem dX9_strandBearsWithout_45 : decode cX9_strandBearsWithout 45 = .ok (.goto (-40), 3) := by decide +kernel
theorem dX9_strandBearsWithout_48 : decode cX9_strandBearsWithout 48 = .ok (.iload_n 3, 1) := by decide +kernel
theorem dX9_strandBearsWithout_49 : decode cX9_strandBearsWithout 49 = .ok (.ireturn, 1) := by decide +kernel
theorem dX9_weakestStrand_0 : decode cX9_weakestStrand 0 = .ok (.iconst 0, 1) := by decide +kernel
theorem dX9_weakestStrand_1 : decode cX9_weakestStrand 1 = .ok (.istore_n 1, 1) := by decide +kernel
theorem dX9_weakestStrand_2 : decode cX9_weakestStrand 2 = .ok (.iconst 1, 1) := by decide +kernel
theorem dX9_weakestStrand_3 : decode cX9_weakestStrand 3 = .ok (.istore_n 2, 1) := by decide +kernel
theorem dX9_weakestStrand_4 : decode cX9_weakestStrand 4 = .ok (.iload_n 2, 1) := by decide +kernel
theorem dX9_weakestStrand_5 : decode cX9_weakestStrand 5 = .ok (.iconst 3, 1) := by decide +kernel
theorem dX9_weakestStrand_6 : decode cX9_weakestStrand 6 = .ok (.if_icmp .ge 24, 3) := by decide +kernel
theorem dX9_weakestStrand_9 : decode cX9_weakestStrand 9 = .ok (.aload_n 0, 1) := by decide +kernel
theorem dX9_weakestStrand_10 : decode cX9_weakestStrand 10 = .ok (.iload_n 2, 1) := by decide +kernel
theorem dX9_weakestStrand_11 : decode cX9_weakestStrand 11 = .ok (.invokevirtual 77, 3) := by decide +kernel
theorem dX9_weakestStrand_14 : decode cX9_weakestStrand 14 = .ok (.aload_n 0, 1) := by decide +kernel
theorem dX9_weakestStrand_15 : decode cX9_weakestStrand 15 = .ok (.iload_n 1, 1) := by decide +kernel
theorem dX9_weakestStrand_16 : decode cX9_weakestStrand 16 = .ok (.invokevirtual 77, 3) := by decide +kernel
theorem dX9_weakestStrand_19 : decode cX9_weakestStrand 19 = .ok (.if_icmp .ge 5, 3) := by decide +kernel
theorem dX9_weakestStrand_22 : decode cX9_weakestStrand 22 = .ok (.iload_n 2, 1) := by decide +kernel
theorem dX9_weakestStrand_23 : decode cX9_weakestStrand 23 = .ok (.istore_n 1, 1) := by decide +kernel
theorem dX9_weakestStrand_24 : decode cX9_weakestStrand 24 = .ok (.iinc 2 1, 3) := by decide +kernel
theorem dX9_weakestStrand_27 : decode cX9_weakestStrand 27 = .ok (.goto (-23), 3) := by decide +kernel
theorem dX9_weakestStrand_30 : decode cX9_weakestStrand 30 = .ok (.iload_n 1, 1) := by decide +kernel
theorem dX9_weakestStrand_31 : decode cX9_weakestStrand 31 = .ok (.ireturn, 1) := by decide +kernel
theorem dX9_part_0 : decode cX9_part 0 = .ok (.iconst 0, 1) := by decide +kernel
theorem dX9_part_1 : decode cX9_part 1 = .ok (.istore_n 2, 1) := by decide +kernel
theorem dX9_part_2 : decode cX9_part 2 = .ok (.iload_n 2, 1) := by decide +kernel
theorem dX9_part_3 : decode cX9_part 3 = .ok (.aload_n 0, 1) := by decide +kernel
theorem dX9_part_4 : decode cX9_part 4 = .ok (.getfield 25, 3) := by decide +kernel
theorem dX9_part_7 : decode cX9_part 7 = .ok (.if_icmp .ge 43, 3) := by decide +kernel
theorem dX9_part_10 : decode cX9_part 10 = .ok (.aload_n 0, 1) := by decide +kernel
theorem dX9_part_11 : decode cX9_part 11 = .ok (.getfield 44, 3) := by decide +kernel
theorem dX9_part_14 : decode cX9_part 14 = .ok (.iconst 0, 1) := by decide +kernel
theorem dX9_part_15 : decode cX9_part 15 = .ok (.iload_n 2, 1) := by decide +kernel
theorem dX9_part_16 : decode cX9_part 16 = .ok (.iadd, 1) := by decide +kernel
theorem dX9_part_17 : decode cX9_part 17 = .ok (.iaload, 1) := by decide +kernel
theorem dX9_part_18 : decode cX9_part 18 = .ok (.iload_n 1, 1) := by decide +kernel
theorem dX9_part_19 : decode cX9_part 19 = .ok (.if_icmp .ne 25, 3) := by decide +kernel
theorem dX9_part_22 : decode cX9_part 22 = .ok (.aload_n 0, 1) := by decide +kernel
theorem dX9_part_23 : decode cX9_part 23 = .ok (.getfield 44, 3) := by decide +kernel
theorem dX9_part_26 : decode cX9_part 26 = .ok (.iconst 0, 1) := by decide +kernel
theorem dX9_part_27 : decode cX9_part 27 = .ok (.iload_n 2, 1) := by decide +kernel
theorem dX9_part_28 : decode cX9_part 28 = .ok (.iadd, 1) := by decide +kernel
theorem dX9_part_29 : decode cX9_part 29 = .ok (.iconst (-1), 1) := by decide +kernel
theorem dX9_part_30 : decode cX9_part 30 = .ok (.iastore, 1) := by decide +kernel
theorem dX9_part_31 : decode cX9_part 31 = .ok (.aload_n 0, 1) := by decide +kernel
theorem dX9_part_32 : decode cX9_part 32 = .ok (.getfield 44, 3) := by decide +kernel
theorem dX9_part_35 : decode cX9_part 35 = .ok (.bipush 18, 2) := by decide +kernel
theorem dX9_part_37 : decode cX9_part 37 = .ok (.iload_n 2, 1) := by decide +kernel
theorem dX9_part_38 : decode cX9_part 38 = .ok (.iadd, 1) := by decide +kernel
theorem dX9_part_39 : decode cX9_part 39 = .ok (.dup2, 1) := by decide +kernel
theorem dX9_part_40 : decode cX9_part 40 = .ok (.iaload, 1) := by decide +kernel
theorem dX9_part_41 : decode cX9_part 41 = .ok (.iconst 5, 1) := by decide +kernel
theorem dX9_part_42 : decode cX9_part 42 = .ok (.iadd, 1) := by decide +kernel
theorem dX9_part_43 : decode cX9_part 43 = .ok (.iastore, 1) := by decide +kernel
theorem dX9_part_44 : decode cX9_part 44 = .ok (.iinc 2 1, 3) := by decide +kernel
theorem dX9_part_47 : decode cX9_part 47 = .ok (.goto (-45), 3) := by decide +kernel
theorem dX9_part_50 : decode cX9_part 50 = .ok (.return_, 1) := by decide +kernel
theorem dX9_wearLaid_0 : decode cX9_wearLaid 0 = .ok (.iconst 0, 1) := by decide +kernel
theorem dX9_wearLaid_1 : decode cX9_wearLaid 1 = .ok (.istore_n 1, 1) := by decide +kernel
theorem dX9_wearLaid_2 : decode cX9_wearLaid 2 = .ok (.iload_n 1, 1) := by decide +kernel
theorem dX9_wearLaid_3 : decode cX9_wearLaid 3 = .ok (.aload_n 0, 1) := by decide +kernel
theorem dX9_wearLaid_4 : decode cX9_wearLaid 4 = .ok (.getfield 25, 3) := by decide +kernel
theorem dX9_wearLaid_7 : decode cX9_wearLaid 7 = .ok (.if_icmp .ge 34, 3) := by decide +kernel
theorem dX9_wearLaid_10 : decode cX9_wearLaid 10 = .ok (.aload_n 0, 1) := by decide +kernel
theorem dX9_wearLaid_11 : decode cX9_wearLaid 11 = .ok (.getfield 44, 3) := by decide +kernel
theorem dX9_wearLaid_14 : decode cX9_wearLaid 14 = .ok (.bipush 18, 2) := by decide +kernel
theorem dX9_wearLaid_16 : decode cX9_wearLaid 16 = .ok (.iload_n 1, 1) := by decide +kernel
theorem dX9_wearLaid_17 : decode cX9_wearLaid 17 = .ok (.iadd, 1) := by decide +kernel
theorem dX9_wearLaid_18 : decode cX9_wearLaid 18 = .ok (.dup2, 1) := by decide +kernel
theorem dX9_wearLaid_19 : decode cX9_wearLaid 19 = .ok (.iaload, 1) := by decide +kernel
theorem dX9_wearLaid_20 : decode cX9_wearLaid 20 = .ok (.aload_n 0, 1) := by decide +kernel
theorem dX9_wearLaid_21 : decode cX9_wearLaid 21 = .ok (.iload_n 1, 1) := by decide +kernel
theorem dX9_wearLaid_22 : decode cX9_wearLaid 22 = .ok (.invokevirtual 80, 3) := by decide +kernel
theorem dX9_wearLaid_25 : decode cX9_wearLaid 25 = .ok (.ifCond .eq 7, 3) := by decide +kernel
theorem dX9_wearLaid_28 : decode cX9_wearLaid 28 = .ok (.iconst 1, 1) := by decide +kernel
theorem dX9_wearLaid_29 : decode cX9_wearLaid 29 = .ok (.goto 4, 3) := by decide +kernel
theorem dX9_wearLaid_32 : decode cX9_wearLaid 32 = .ok (.iconst 0, 1) := by decide +kernel
theorem dX9_wearLaid_33 : decode cX9_wearLaid 33 = .ok (.iadd, 1) := by decide +kernel
theorem dX9_wearLaid_34 : decode cX9_wearLaid 34 = .ok (.iastore, 1) := by decide +kernel
theorem dX9_wearLaid_35 : decode cX9_wearLaid 35 = .ok (.iinc 1 1, 3) := by decide +kernel
theorem dX9_wearLaid_38 : decode cX9_wearLaid 38 = .ok (.goto (-36), 3) := by decide +kernel
theorem dX9_wearLaid_41 : decode cX9_wearLaid 41 = .ok (.return_, 1) := by decide +kernel
theorem dX9_isDrawn_0 : decode cX9_isDrawn 0 = .ok (.aload_n 0, 1) := by decide +kernel
theorem dX9_isDrawn_1 : decode cX9_isDrawn 1 = .ok (.getfield 35, 3) := by decide +kernel
theorem dX9_isDrawn_4 : decode cX9_isDrawn 4 = .ok (.iload_n 1, 1) := by decide +kernel
theorem dX9_isDrawn_5 : decode cX9_isDrawn 5 = .ok (.iaload, 1) := by decide +kernel
theorem dX9_isDrawn_6 : decode cX9_isDrawn 6 = .ok (.iconst 2, 1) := by decide +kernel
theorem dX9_isDrawn_7 : decode cX9_isDrawn 7 = .ok (.if_icmp .eq 17, 3) := by decide +kernel
theorem dX9_isDrawn_10 : decode cX9_isDrawn 10 = .ok (.aload_n 0, 1) := by decide +kernel
theorem dX9_isDrawn_11 : decode cX9_isDrawn 11 = .ok (.getfield 35, 3) := by decide +kernel
theorem dX9_isDrawn_14 : decode cX9_isDrawn 14 = .ok (.iload_n 1, 1) := by decide +kernel
theorem dX9_isDrawn_15 : decode cX9_isDrawn 15 = .ok (.iaload, 1) := by decide +kernel
theorem dX9_isDrawn_16 : decode cX9_isDrawn 16 = .ok (.iconst 4, 1) := by decide +kernel
theorem dX9_isDrawn_17 : decode cX9_isDrawn 17 = .ok (.if_icmp .eq 7, 3) := by decide +kernel
theorem dX9_isDrawn_20 : decode cX9_isDrawn 20 = .ok (.iconst 1, 1) := by decide +kernel
theorem dX9_isDrawn_21 : decode cX9_isDrawn 21 = .ok (.goto 4, 3) := by decide +kernel
theorem dX9_isDrawn_24 : decode cX9_isDrawn 24 = .ok (.iconst 0, 1) := by decide +kernel
theorem dX9_isDrawn_25 : decode cX9_isDrawn 25 = .ok (.ireturn, 1) := by decide +kernel
theorem dX9_keptInTen_0 : decode cX9_keptInTen 0 = .ok (.aload_n 0, 1) := by decide +kernel
theorem dX9_keptInTen_1 : decode cX9_keptInTen 1 = .ok (.getfield 44, 3) := by decide +kernel
theorem dX9_keptInTen_4 : decode cX9_keptInTen 4 = .ok (.bipush 9, 2) := by decide +kernel
theorem dX9_keptInTen_6 : decode cX9_keptInTen 6 = .ok (.iload_n 1, 1) := by decide +kernel
theorem dX9_keptInTen_7 : decode cX9_keptInTen 7 = .ok (.iadd, 1) := by decide +kernel
theorem dX9_keptInTen_8 : decode cX9_keptInTen 8 = .ok (.iaload, 1) := by decide +kernel
theorem dX9_keptInTen_9 : decode cX9_keptInTen 9 = .ok (.ifCond .eq 23, 3) := by decide +kernel
theorem dX9_keptInTen_12 : decode cX9_keptInTen 12 = .ok (.aload_n 0, 1) := by decide +kernel
theorem dX9_keptInTen_13 : decode cX9_keptInTen 13 = .ok (.getfield 44, 3) := by decide +kernel
theorem dX9_keptInTen_16 : decode cX9_keptInTen 16 = .ok (.bipush 9, 2) := by decide +kernel
theorem dX9_keptInTen_18 : decode cX9_keptInTen 18 = .ok (.iload_n 1, 1) := by decide +kernel
theorem dX9_keptInTen_19 : decode cX9_keptInTen 19 = .ok (.iadd, 1) := by decide +kernel
theorem dX9_keptInTen_20 : decode cX9_keptInTen 20 = .ok (.iaload, 1) := by decide +kernel
theorem dX9_keptInTen_21 : decode cX9_keptInTen 21 = .ok (.iconst 1, 1) := by decide +kernel
theorem dX9_keptInTen_22 : decode cX9_keptInTen 22 = .ok (.if_icmp .ne 8, 3) := by decide +kernel
theorem dX9_keptInTen_25 : decode cX9_keptInTen 25 = .ok (.bipush 10, 2) := by decide +kernel
theorem dX9_keptInTen_27 : decode cX9_keptInTen 27 = .ok (.goto 4, 3) := by decide +kernel
theorem dX9_keptInTen_30 : decode cX9_keptInTen 30 = .ok (.iconst 0, 1) := by decide +kernel
theorem dX9_keptInTen_31 : decode cX9_keptInTen 31 = .ok (.ireturn, 1) := by decide +kernel
theorem dX9_keptInTen_32 : decode cX9_keptInTen 32 = .ok (.aload_n 0, 1) := by decide +kernel
theorem dX9_keptInTen_33 : decode cX9_keptInTen 33 = .ok (.getfield 35, 3) := by decide +kernel
theorem dX9_keptInTen_36 : decode cX9_keptInTen 36 = .ok (.iload_n 1, 1) := by decide +kernel
theorem dX9_keptInTen_37 : decode cX9_keptInTen 37 = .ok (.iaload, 1) := by decide +kernel
theorem dX9_keptInTen_38 : decode cX9_keptInTen 38 = .ok (.iconst 2, 1) := by decide +kernel
theorem dX9_keptInTen_39 : decode cX9_keptInTen 39 = .ok (.if_icmp .ne 8, 3) := by decide +kernel
theorem dX9_keptInTen_42 : decode cX9_keptInTen 42 = .ok (.bipush 10, 2) := by decide +kernel
theorem dX9_keptInTen_44 : decode cX9_keptInTen 44 = .ok (.goto 28, 3) := by decide +kernel
theorem dX9_keptInTen_47 : decode cX9_keptInTen 47 = .ok (.aload_n 0, 1) := by decide +kernel
theorem dX9_keptInTen_48 : decode cX9_keptInTen 48 = .ok (.getfield 35, 3) := by decide +kernel
theorem dX9_keptInTen_51 : decode cX9_keptInTen 51 = .ok (.iload_n 1, 1) := by decide +kernel
theorem dX9_keptInTen_52 : decode cX9_keptInTen 52 = .ok (.iaload, 1) := by decide +kernel
theorem dX9_keptInTen_53 : decode cX9_keptInTen 53 = .ok (.iconst 4, 1) := by decide +kernel
theorem dX9_keptInTen_54 : decode cX9_keptInTen 54 = .ok (.if_icmp .ne 7, 3) := by decide +kernel
theorem dX9_keptInTen_57 : decode cX9_keptInTen 57 = .ok (.iconst 0, 1) := by decide +kernel
theorem dX9_keptInTen_58 : decode cX9_keptInTen 58 = .ok (.goto 14, 3) := by decide +kernel
theorem dX9_keptInTen_61 : decode cX9_keptInTen 61 = .ok (.aload_n 0, 1) := by decide +kernel
theorem dX9_keptInTen_62 : decode cX9_keptInTen 62 = .ok (.getfield 28, 3) := by decide +kernel
theorem dX9_keptInTen_65 : decode cX9_keptInTen 65 = .ok (.aload_n 0, 1) := by decide +kernel
theorem dX9_keptInTen_66 : decode cX9_keptInTen 66 = .ok (.getfield 38, 3) := by decide +kernel
theorem dX9_keptInTen_69 : decode cX9_keptInTen 69 = .ok (.iload_n 1, 1) := by decide +kernel
theorem dX9_keptInTen_70 : decode cX9_keptInTen 70 = .ok (.iaload, 1) := by decide +kernel
theorem dX9_keptInTen_71 : decode cX9_keptInTen 71 = .ok (.iaload, 1) := by decide +kernel
theorem dX9_keptInTen_72 : decode cX9_keptInTen 72 = .ok (.ireturn, 1) := by decide +kernel
theorem dX9_priceOf_0 : decode cX9_priceOf 0 = .ok (.iconst 0, 1) := by decide +kernel
theorem dX9_priceOf_1 : decode cX9_priceOf 1 = .ok (.istore_n 2, 1) := by decide +kernel
theorem dX9_priceOf_2 : decode cX9_priceOf 2 = .ok (.iconst 0, 1) := by decide +kernel
theorem dX9_priceOf_3 : decode cX9_priceOf 3 = .ok (.istore_n 3, 1) := by decide +kernel
theorem dX9_priceOf_4 : decode cX9_priceOf 4 = .ok (.iload_n 3, 1) := by decide +kernel
theorem dX9_priceOf_5 : decode cX9_priceOf 5 = .ok (.aload_n 0, 1) := by decide +kernel
theorem dX9_priceOf_6 : decode cX9_priceOf 6 = .ok (.getfield 25, 3) := by decide +kernel
theorem dX9_priceOf_9 : decode cX9_priceOf 9 = .ok (.if_icmp .ge 36, 3) := by decide +kernel
theorem dX9_priceOf_12 : decode cX9_priceOf 12 = .ok (.iload_n 2, 1) := by decide +kernel
theorem dX9_priceOf_13 : decode cX9_priceOf 13 = .ok (.iload_n 1, 1) := by decide +kernel
theorem dX9_priceOf_14 : decode cX9_priceOf 14 = .ok (.iload_n 3, 1) := by decide +kernel
theorem dX9_priceOf_15 : decode cX9_priceOf 15 = .ok (.ishr, 1) := by decide +kernel
theorem dX9_priceOf_16 : decode cX9_priceOf 16 = .ok (.iconst 1, 1) := by decide +kernel
theorem dX9_priceOf_17 : decode cX9_priceOf 17 = .ok (.iand, 1) := by decide +kernel
theorem dX9_priceOf_18 : decode cX9_priceOf 18 = .ok (.aload_n 0, 1) := by decide +kernel
theorem dX9_priceOf_19 : decode cX9_priceOf 19 = .ok (.getfield 32, 3) := by decide +kernel
theorem dX9_priceOf_22 : decode cX9_priceOf 22 = .ok (.aload_n 0, 1) := by decide +kernel
theorem dX9_priceOf_23 : decode cX9_priceOf 23 = .ok (.getfield 38, 3) := by decide +kernel
theorem dX9_priceOf_26 : decode cX9_priceOf 26 = .ok (.iload_n 3, 1) := by decide +kernel
theorem dX9_priceOf_27 : decode cX9_priceOf 27 = .ok (.iaload, 1) := by decide +kernel
theorem dX9_priceOf_28 : decode cX9_priceOf 28 = .ok (.iaload, 1) := by decide +kernel
theorem dX9_priceOf_29 : decode cX9_priceOf 29 = .ok (.imul, 1) := by decide +kernel
theorem dX9_priceOf_30 : decode cX9_priceOf 30 = .ok (.aload_n 0, 1) := by decide +kernel
theorem dX9_priceOf_31 : decode cX9_priceOf 31 = .ok (.getfield 41, 3) := by decide +kernel
theorem dX9_priceOf_34 : decode cX9_priceOf 34 = .ok (.iload_n 3, 1) := by decide +kernel
theorem dX9_priceOf_35 : decode cX9_priceOf 35 = .ok (.iaload, 1) := by decide +kernel
theorem dX9_priceOf_36 : decode cX9_priceOf 36 = .ok (.imul, 1) := by decide +kernel
theorem dX9_priceOf_37 : decode cX9_priceOf 37 = .ok (.iadd, 1) := by decide +kernel
theorem dX9_priceOf_38 : decode cX9_priceOf 38 = .ok (.istore_n 2, 1) := by decide +kernel
theorem dX9_priceOf_39 : decode cX9_priceOf 39 = .ok (.iinc 3 1, 3) := by decide +kernel
theorem dX9_priceOf_42 : decode cX9_priceOf 42 = .ok (.goto (-38), 3) := by decide +kernel
theorem dX9_priceOf_45 : decode cX9_priceOf 45 = .ok (.iload_n 2, 1) := by decide +kernel
theorem dX9_priceOf_46 : decode cX9_priceOf 46 = .ok (.ireturn, 1) := by decide +kernel
theorem dX9_laidYarns_0 : decode cX9_laidYarns 0 = .ok (.iconst 0, 1) := by decide +kernel
theorem dX9_laidYarns_1 : decode cX9_laidYarns 1 = .ok (.istore_n 1, 1) := by decide +kernel
theorem dX9_laidYarns_2 : decode cX9_laidYarns 2 = .ok (.iconst 0, 1) := by decide +kernel
theorem dX9_laidYarns_3 : decode cX9_laidYarns 3 = .ok (.istore_n 2, 1) := by decide +kernel
theorem dX9_laidYarns_4 : decode cX9_laidYarns 4 = .ok (.iload_n 2, 1) := by decide +kernel
theorem dX9_laidYarns_5 : decode cX9_laidYarns 5 = .ok (.aload_n 0, 1) := by decide +kernel
theorem dX9_laidYarns_6 : decode cX9_laidYarns 6 = .ok (.getfield 25, 3) := by decide +kernel
theorem dX9_laidYarns_9 : decode cX9_laidYarns 9 = .ok (.if_icmp .ge 25, 3) := by decide +kernel
theorem dX9_laidYarns_12 : decode cX9_laidYarns 12 = .ok (.iload_n 1, 1) := by decide +kernel
theorem dX9_laidYarns_13 : decode cX9_laidYarns 13 = .ok (.aload_n 0, 1) := by decide +kernel
theorem dX9_laidYarns_14 : decode cX9_laidYarns 14 = .ok (.iload_n 2, 1) := by decide +kernel
theorem dX9_laidYarns_15 : decode cX9_laidYarns 15 = .ok (.invokevirtual 80, 3) := by decide +kernel
theorem dX9_laidYarns_18 : decode cX9_laidYarns 18 = .ok (.ifCond .eq 7, 3) := by decide +kernel
theorem dX9_laidYarns_21 : decode cX9_laidYarns 21 = .ok (.iconst 1, 1) := by decide +kernel
theorem dX9_laidYarns_22 : decode cX9_laidYarns 22 = .ok (.goto 4, 3) := by decide +kernel
theorem dX9_laidYarns_25 : decode cX9_laidYarns 25 = .ok (.iconst 0, 1) := by decide +kernel
theorem dX9_laidYarns_26 : decode cX9_laidYarns 26 = .ok (.iadd, 1) := by decide +kernel
theorem dX9_laidYarns_27 : decode cX9_laidYarns 27 = .ok (.istore_n 1, 1) := by decide +kernel
theorem dX9_laidYarns_28 : decode cX9_laidYarns 28 = .ok (.iinc 2 1, 3) := by decide +kernel
theorem dX9_laidYarns_31 : decode cX9_laidYarns 31 = .ok (.goto (-27), 3) := by decide +kernel
theorem dX9_laidYarns_34 : decode cX9_laidYarns 34 = .ok (.iload_n 1, 1) := by decide +kernel
theorem dX9_laidYarns_35 : decode cX9_laidYarns 35 = .ok (.ireturn, 1) := by decide +kernel
theorem dX9_brokenVows_0 : decode cX9_brokenVows 0 = .ok (.iconst 0, 1) := by decide +kernel
theorem dX9_brokenVows_1 : decode cX9_brokenVows 1 = .ok (.istore_n 1, 1) := by decide +kernel
theorem dX9_brokenVows_2 : decode cX9_brokenVows 2 = .ok (.iconst 0, 1) := by decide +kernel
theorem dX9_brokenVows_3 : decode cX9_brokenVows 3 = .ok (.istore_n 2, 1) := by decide +kernel
theorem dX9_brokenVows_4 : decode cX9_brokenVows 4 = .ok (.iload_n 2, 1) := by decide +kernel
theorem dX9_brokenVows_5 : decode cX9_brokenVows 5 = .ok (.aload_n 0, 1) := by decide +kernel
theorem dX9_brokenVows_6 : decode cX9_brokenVows 6 = .ok (.getfield 25, 3) := by decide +kernel
theorem dX9_brokenVows_9 : decode cX9_brokenVows 9 = .ok (.if_icmp .ge 30, 3) := by decide +kernel
theorem dX9_brokenVows_12 : decode cX9_brokenVows 12 = .ok (.iload_n 1, 1) := by decide +kernel
theorem dX9_brokenVows_13 : decode cX9_brokenVows 13 = .ok (.aload_n 0, 1) := by decide +kernel
theorem dX9_brokenVows_14 : decode cX9_brokenVows 14 = .ok (.getfield 44, 3) := by decide +kernel
theorem dX9_brokenVows_17 : decode cX9_brokenVows 17 = .ok (.bipush 9, 2) := by decide +kernel
theorem dX9_brokenVows_19 : decode cX9_brokenVows 19 = .ok (.iload_n 2, 1) := by decide +kernel
theorem dX9_brokenVows_20 : decode cX9_brokenVows 20 = .ok (.iadd, 1) := by decide +kernel
theorem dX9_brokenVows_21 : decode cX9_brokenVows 21 = .ok (.iaload, 1) := by decide +kernel
theorem dX9_brokenVows_22 : decode cX9_brokenVows 22 = .ok (.iconst 2, 1) := by decide +kernel
theorem dX9_brokenVows_23 : decode cX9_brokenVows 23 = .ok (.if_icmp .ne 7, 3) := by decide +kernel
theorem dX9_brokenVows_26 : decode cX9_brokenVows 26 = .ok (.iconst 1, 1) := by decide +kernel
theorem dX9_brokenVows_27 : decode cX9_brokenVows 27 = .ok (.goto 4, 3) := by decide +kernel
theorem dX9_brokenVows_30 : decode cX9_brokenVows 30 = .ok (.iconst 0, 1) := by decide +kernel
theorem dX9_brokenVows_31 : decode cX9_brokenVows 31 = .ok (.iadd, 1) := by decide +kernel
theorem dX9_brokenVows_32 : decode cX9_brokenVows 32 = .ok (.istore_n 1, 1) := by decide +kernel
theorem dX9_brokenVows_33 : decode cX9_brokenVows 33 = .ok (.iinc 2 1, 3) := by decide +kernel
theorem dX9_brokenVows_36 : decode cX9_brokenVows 36 = .ok (.goto (-32), 3) := by decide +kernel
theorem dX9_brokenVows_39 : decode cX9_brokenVows 39 = .ok (.iload_n 1, 1) := by decide +kernel
theorem dX9_brokenVows_40 : decode cX9_brokenVows 40 = .ok (.ireturn, 1) := by decide +kernel
theorem dX10_init_0 : decode cX10_init 0 = .ok (.aload_n 0, 1) := by decide +kernel
theorem dX10_init_1 : decode cX10_init 1 = .ok (.invokespecial 1, 3) := by decide +kernel
theorem dX10_init_4 : decode cX10_init 4 = .ok (.aload_n 0, 1) := by decide +kernel
theorem dX10_init_5 : decode cX10_init 5 = .ok (.new 7, 3) := by decide +kernel
theorem dX10_init_8 : decode cX10_init 8 = .ok (.dup, 1) := by decide +kernel
theorem dX10_init_9 : decode cX10_init 9 = .ok (.invokespecial 9, 3) := by decide +kernel
theorem dX10_init_12 : decode cX10_init 12 = .ok (.putfield 10, 3) := by decide +kernel
theorem dX10_init_15 : decode cX10_init 15 = .ok (.aload_n 0, 1) := by decide +kernel
theorem dX10_init_16 : decode cX10_init 16 = .ok (.new 16, 3) := by decide +kernel
theorem dX10_init_19 : decode cX10_init 19 = .ok (.dup, 1) := by decide +kernel
theorem dX10_init_20 : decode cX10_init 20 = .ok (.invokespecial 18, 3) := by decide +kernel
theorem dX10_init_23 : decode cX10_init 23 = .ok (.putfield 19, 3) := by decide +kernel
theorem dX10_init_26 : decode cX10_init 26 = .ok (.aload_n 0, 1) := by decide +kernel
theorem dX10_init_27 : decode cX10_init 27 = .ok (.new 23, 3) := by decide +kernel
theorem dX10_init_30 : decode cX10_init 30 = .ok (.dup, 1) := by decide +kernel
theorem dX10_init_31 : decode cX10_init 31 = .ok (.invokespecial 25, 3) := by decide +kernel
theorem dX10_init_34 : decode cX10_init 34 = .ok (.putfield 26, 3) := by decide +kernel
theorem dX10_init_37 : decode cX10_init 37 = .ok (.aload_n 0, 1) := by decide +kernel
theorem dX10_init_38 : decode cX10_init 38 = .ok (.new 23, 3) := by decide +kernel
theorem dX10_init_41 : decode cX10_init 41 = .ok (.dup, 1) := by decide +kernel
theorem dX10_init_42 : decode cX10_init 42 = .ok (.invokespecial 25, 3) := by decide +kernel
theorem dX10_init_45 : decode cX10_init 45 = .ok (.putfield 30, 3) := by decide +kernel
theorem dX10_init_48 : decode cX10_init 48 = .ok (.aload_n 0, 1) := by decide +kernel
theorem dX10_init_49 : decode cX10_init 49 = .ok (.iconst 2, 1) := by decide +kernel
theorem dX10_init_50 : decode cX10_init 50 = .ok (.anewarray 23, 3) := by decide +kernel
theorem dX10_init_53 : decode cX10_init 53 = .ok (.putfield 33, 3) := by decide +kernel
theorem dX10_init_56 : decode cX10_init 56 = .ok (.aload_n 0, 1) := by decide +kernel
theorem dX10_init_57 : decode cX10_init 57 = .ok (.new 37, 3) := by decide +kernel
theorem dX10_init_60 : decode cX10_init 60 = .ok (.dup, 1) := by decide +kernel
theorem dX10_init_61 : decode cX10_init 61 = .ok (.invokespecial 39, 3) := by decide +kernel
theorem dX10_init_64 : decode cX10_init 64 = .ok (.putfield 40, 3) := by decide +kernel
theorem dX10_init_67 : decode cX10_init 67 = .ok (.aload_n 0, 1) := by decide +kernel
theorem dX10_init_68 : decode cX10_init 68 = .ok (.new 44, 3) := by decide +kernel
theorem dX10_init_71 : decode cX10_init 71 = .ok (.dup, 1) := by decide +kernel
theorem dX10_init_72 : decode cX10_init 72 = .ok (.invokespecial 46, 3) := by decide +kernel
theorem dX10_init_75 : decode cX10_init 75 = .ok (.putfield 47, 3) := by decide +kernel
theorem dX10_init_78 : decode cX10_init 78 = .ok (.aload_n 0, 1) := by decide +kernel
theorem dX10_init_79 : decode cX10_init 79 = .ok (.new 51, 3) := by decide +kernel
theorem dX10_init_82 : decode cX10_init 82 = .ok (.dup, 1) := by decide +kernel
theorem dX10_init_83 : decode cX10_init 83 = .ok (.invokespecial 53, 3) := by decide +kernel
theorem dX10_init_86 : decode cX10_init 86 = .ok (.putfield 54, 3) := by decide +kernel
theorem dX10_init_89 : decode cX10_init 89 = .ok (.aload_n 0, 1) := by decide +kernel
theorem dX10_init_90 : decode cX10_init 90 = .ok (.new 58, 3) := by decide +kernel
theorem dX10_init_93 : decode cX10_init 93 = .ok (.dup, 1) := by decide +kernel
theorem dX10_init_94 : decode cX10_init 94 = .ok (.invokespecial 60, 3) := by decide +kernel
theorem dX10_init_97 : decode cX10_init 97 = .ok (.putfield 61, 3) := by decide +kernel
theorem dX10_init_100 : decode cX10_init 100 = .ok (.aload_n 0, 1) := by decide +kernel
theorem dX10_init_101 : decode cX10_init 101 = .ok (.new 65, 3) := by decide +kernel
theorem dX10_init_104 : decode cX10_init 104 = .ok (.dup, 1) := by decide +kernel
theorem dX10_init_105 : decode cX10_init 105 = .ok (.invokespecial 67, 3) := by decide +kernel
theorem dX10_init_108 : decode cX10_init 108 = .ok (.putfield 68, 3) := by decide +kernel
theorem dX10_init_111 : decode cX10_init 111 = .ok (.aload_n 0, 1) := by decide +kernel
theorem dX10_init_112 : decode cX10_init 112 = .ok (.iconst 0, 1) := by decide +kernel
theorem dX10_init_113 : decode cX10_init 113 = .ok (.putfield 72, 3) := by decide +kernel
theorem dX10_init_116 : decode cX10_init 116 = .ok (.aload_n 0, 1) := by decide +kernel
theorem dX10_init_117 : decode cX10_init 117 = .ok (.iconst 0, 1) := by decide +kernel
theorem dX10_init_118 : decode cX10_init 118 = .ok (.putfield 76, 3) := by decide +kernel
theorem dX10_init_121 : decode cX10_init 121 = .ok (.return_, 1) := by decide +kernel
theorem dX10_row_0 : decode cX10_row 0 = .ok (.aload_n 0, 1) := by decide +kernel
theorem dX10_row_1 : decode cX10_row 1 = .ok (.getfield 10, 3) := by decide +kernel
theorem dX10_row_4 : decode cX10_row 4 = .ok (.iload_n 1, 1) := by decide +kernel
theorem dX10_row_5 : decode cX10_row 5 = .ok (.invokevirtual 79, 3) := by decide +kernel
theorem dX10_row_8 : decode cX10_row 8 = .ok (.ifCond .eq 18, 3) := by decide +kernel
theorem dX10_row_11 : decode cX10_row 11 = .ok (.iload_n 2, 1) := by decide +kernel
theorem dX10_row_12 : decode cX10_row 12 = .ok (.ifCond .lt 14, 3) := by decide +kernel
theorem dX10_row_15 : decode cX10_row 15 = .ok (.iload_n 2, 1) := by decide +kernel
theorem dX10_row_16 : decode cX10_row 16 = .ok (.iconst 2, 1) := by decide +kernel
theorem dX10_row_17 : decode cX10_row 17 = .ok (.if_icmp .gt 9, 3) := by decide +kernel
theorem dX10_row_20 : decode cX10_row 20 = .ok (.iload_n 3, 1) := by decide +kernel
theorem dX10_row_21 : decode cX10_row 21 = .ok (.bipush 40, 2) := by decide +kernel
theorem dX10_row_23 : decode cX10_row 23 = .ok (.if_icmp .le 6, 3) := by decide +kernel
theorem dX10_row_26 : decode cX10_row 26 = .ok (.ldc 83, 2) := by decide +kernel
theorem dX10_row_28 : decode cX10_row 28 = .ok (.ireturn, 1) := by decide +kernel
theorem dX10_row_29 : decode cX10_row 29 = .ok (.iload_n 3, 1) := by decide +kernel
theorem dX10_row_30 : decode cX10_row 30 = .ok (.ifCond .ge 9, 3) := by decide +kernel
theorem dX10_row_33 : decode cX10_row 33 = .ok (.aload_n 0, 1) := by decide +kernel
theorem dX10_row_34 : decode cX10_row 34 = .ok (.iconst 4, 1) := by decide +kernel
theorem dX10_row_35 : decode cX10_row 35 = .ok (.invokevirtual 84, 3) := by decide +kernel
theorem dX10_row_38 : decode cX10_row 38 = .ok (.ireturn, 1) := by decide +kernel
theorem dX10_row_39 : decode cX10_row 39 = .ok (.aload_n 0, 1) := by decide +kernel
theorem dX10_row_40 : decode cX10_row 40 = .ok (.getfield 10, 3) := by decide +kernel
theorem dX10_row_43 : decode cX10_row 43 = .ok (.iload_n 1, 1) := by decide +kernel
theorem dX10_row_44 : decode cX10_row 44 = .ok (.iload_n 2, 1) := by decide +kernel
theorem dX10_row_45 : decode cX10_row 45 = .ok (.iload_n 3, 1) := by decide +kernel
theorem dX10_row_46 : decode cX10_row 46 = .ok (.invokevirtual 88, 3) := by decide +kernel
theorem dX10_row_49 : decode cX10_row 49 = .ok (.aload_n 0, 1) := by decide +kernel
theorem dX10_row_50 : decode cX10_row 50 = .ok (.iload_n 3, 1) := by decide +kernel
theorem dX10_row_51 : decode cX10_row 51 = .ok (.invokevirtual 92, 3) := by decide +kernel
theorem dX10_row_54 : decode cX10_row 54 = .ok (.ireturn, 1) := by decide +kernel
theorem dX10_set_0 : decode cX10_set 0 = .ok (.aload_n 0, 1) := by decide +kernel
theorem dX10_set_1 : decode cX10_set 1 = .ok (.getfield 10, 3) := by decide +kernel
theorem dX10_set_4 : decode cX10_set 4 = .ok (.iload_n 1, 1) := by decide +kernel
theorem dX10_set_5 : decode cX10_set 5 = .ok (.invokevirtual 79, 3) := by decide +kernel
theorem dX10_set_8 : decode cX10_set 8 = .ok (.ifCond .ne 6, 3) := by decide +kernel
theorem dX10_set_11 : decode cX10_set 11 = .ok (.ldc 83, 2) := by decide +kernel
theorem dX10_set_13 : decode cX10_set 13 = .ok (.ireturn, 1) := by decide +kernel
theorem dX10_set_14 : decode cX10_set 14 = .ok (.aload_n 0, 1) := by decide +kernel
theorem dX10_set_15 : decode cX10_set 15 = .ok (.getfield 10, 3) := by decide +kernel
theorem dX10_set_18 : decode cX10_set 18 = .ok (.iload_n 1, 1) := by decide +kernel
theorem dX10_set_19 : decode cX10_set 19 = .ok (.invokevirtual 95, 3) := by decide +kernel
theorem dX10_set_22 : decode cX10_set 22 = .ok (.ifCond .eq 9, 3) := by decide +kernel
theorem dX10_set_25 : decode cX10_set 25 = .ok (.aload_n 0, 1) := by decide +kernel
theorem dX10_set_26 : decode cX10_set 26 = .ok (.iconst 1, 1) := by decide +kernel
theorem dX10_set_27 : decode cX10_set 27 = .ok (.invokevirtual 84, 3) := by decide +kernel
theorem dX10_set_30 : decode cX10_set 30 = .ok (.ireturn, 1) := by decide +kernel
theorem dX10_set_31 : decode cX10_set 31 = .ok (.aload_n 0, 1) := by decide +kernel
theorem dX10_set_32 : decode cX10_set 32 = .ok (.getfield 10, 3) := by decide +kernel
theorem dX10_set_35 : decode cX10_set 35 = .ok (.iload_n 1, 1) := by decide +kernel
theorem dX10_set_36 : decode cX10_set 36 = .ok (.iload_n 2, 1) := by decide +kernel
theorem dX10_set_37 : decode cX10_set 37 = .ok (.iconst 1, 1) := by decide +kernel
theorem dX10_set_38 : decode cX10_set 38 = .ok (.invokevirtual 98, 3) := by decide +kernel
theorem dX10_set_41 : decode cX10_set 41 = .ok (.ifCond .ne 9, 3) := by decide +kernel
theorem dX10_set_44 : decode cX10_set 44 = .ok (.aload_n 0, 1) := by decide +kernel
theorem dX10_set_45 : decode cX10_set 45 = .ok (.iconst 2, 1) := by decide +kernel
theorem dX10_set_46 : decode cX10_set 46 = .ok (.invokevirtual 84, 3) := by decide +kernel
theorem dX10_set_49 : decode cX10_set 49 = .ok (.ireturn, 1) := by decide +kernel
theorem dX10_set_50 : decode cX10_set 50 = .ok (.aload_n 0, 1) := by decide +kernel
theorem dX10_set_51 : decode cX10_set 51 = .ok (.aload_n 0, 1) := by decide +kernel
theorem dX10_set_52 : decode cX10_set 52 = .ok (.getfield 10, 3) := by decide +kernel
theorem dX10_set_55 : decode cX10_set 55 = .ok (.iload_n 1, 1) := by decide +kernel
theorem dX10_set_56 : decode cX10_set 56 = .ok (.iload_n 2, 1) := by decide +kernel
theorem dX10_set_57 : decode cX10_set 57 = .ok (.iload_n 3, 1) := by decide +kernel
theorem dX10_set_58 : decode cX10_set 58 = .ok (.invokevirtual 102, 3) := by decide +kernel
theorem dX10_set_61 : decode cX10_set 61 = .ok (.invokevirtual 92, 3) := by decide +kernel
theorem dX10_set_64 : decode cX10_set 64 = .ok (.ireturn, 1) := by decide +kernel
theorem dX10_copy_0 : decode cX10_copy 0 = .ok (.aload_n 0, 1) := by decide +kernel
theorem dX10_copy_1 : decode cX10_copy 1 = .ok (.getfield 10, 3) := by decide +kernel
theorem dX10_copy_4 : decode cX10_copy 4 = .ok (.iload_n 1, 1) := by decide +kernel
theorem dX10_copy_5 : decode cX10_copy 5 = .ok (.invokevirtual 79, 3) := by decide +kernel
theorem dX10_copy_8 : decode cX10_copy 8 = .ok (.ifCond .eq 14, 3) := by decide +kernel
theorem dX10_copy_11 : decode cX10_copy 11 = .ok (.aload_n 0, 1) := by decide +kernel
theorem dX10_copy_12 : decode cX10_copy 12 = .ok (.getfield 10, 3) := by decide +kernel
theorem dX10_copy_15 : decode cX10_copy 15 = .ok (.iload_n 3, 1) := by decide +kernel
theorem dX10_copy_16 : decode cX10_copy 16 = .ok (.invokevirtual 79, 3) := by decide +kernel
theorem dX10_copy_19 : decode cX10_copy 19 = .ok (.ifCond .ne 6, 3) := by decide +kernel
theorem dX10_copy_22 : decode cX10_copy 22 = .ok (.ldc 83, 2) := by decide +kernel
theorem dX10_copy_24 : decode cX10_copy 24 = .ok (.ireturn, 1) := by decide +kernel
theorem dX10_copy_25 : decode cX10_copy 25 = .ok (.aload_n 0, 1) := by decide +kernel
theorem dX10_copy_26 : decode cX10_copy 26 = .ok (.getfield 10, 3) := by decide +kernel
theorem dX10_copy_29 : decode cX10_copy 29 = .ok (.iload_n 1, 1) := by decide +kernel
theorem dX10_copy_30 : decode cX10_copy 30 = .ok (.invokevirtual 95, 3) := by decide +kernel
theorem dX10_copy_33 : decode cX10_copy 33 = .ok (.ifCond .ne 14, 3) := by decide +kernel
theorem dX10_copy_36 : decode cX10_copy 36 = .ok (.aload_n 0, 1) := by decide +kernel
theorem dX10_copy_37 : decode cX10_copy 37 = .ok (.getfield 10, 3) := by decide +kernel
theorem dX10_copy_40 : decode cX10_copy 40 = .ok (.iload_n 3, 1) := by decide +kernel
theorem dX10_copy_41 : decode cX10_copy 41 = .ok (.invokevirtual 95, 3) := by decide +kernel
theorem dX10_copy_44 : decode cX10_copy 44 = .ok (.ifCond .eq 9, 3) := by decide +kernel
theorem dX10_copy_47 : decode cX10_copy 47 = .ok (.aload_n 0, 1) := by decide +kernel
theorem dX10_copy_48 : decode cX10_copy 48 = .ok (.iconst 1, 1) := by decide +kernel
theorem dX10_copy_49 : decode cX10_copy 49 = .ok (.invokevirtual 84, 3) := by decide +kernel
theorem dX10_copy_52 : decode cX10_copy 52 = .ok (.ireturn, 1) := by decide +kernel
theorem dX10_copy_53 : decode cX10_copy 53 = .ok (.aload_n 0, 1) := by decide +kernel
theorem dX10_copy_54 : decode cX10_copy 54 = .ok (.getfield 10, 3) := by decide +kernel
theorem dX10_copy_57 : decode cX10_copy 57 = .ok (.iload_n 1, 1) := by decide +kernel
theorem dX10_copy_58 : decode cX10_copy 58 = .ok (.invokevirtual 106, 3) := by decide +kernel
theorem dX10_copy_61 : decode cX10_copy 61 = .ok (.aload_n 0, 1) := by decide +kernel
theorem dX10_copy_62 : decode cX10_copy 62 = .ok (.getfield 10, 3) := by decide +kernel
theorem dX10_copy_65 : decode cX10_copy 65 = .ok (.iload_n 3, 1) := by decide +kernel
theorem dX10_copy_66 : decode cX10_copy 66 = .ok (.invokevirtual 106, 3) := by decide +kernel
theorem dX10_copy_69 : decode cX10_copy 69 = .ok (.if_icmp .eq 9, 3) := by decide +kernel
theorem dX10_copy_72 : decode cX10_copy 72 = .ok (.aload_n 0, 1) := by decide +kernel
theorem dX10_copy_73 : decode cX10_copy 73 = .ok (.iconst 5, 1) := by decide +kernel
theorem dX10_copy_74 : decode cX10_copy 74 = .ok (.invokevirtual 84, 3) := by decide +kernel
theorem dX10_copy_77 : decode cX10_copy 77 = .ok (.ireturn, 1) := by decide +kernel
theorem dX10_copy_78 : decode cX10_copy 78 = .ok (.aload_n 0, 1) := by decide +kernel
theorem dX10_copy_79 : decode cX10_copy 79 = .ok (.getfield 10, 3) := by decide +kernel
theorem dX10_copy_82 : decode cX10_copy 82 = .ok (.iload_n 1, 1) := by decide +kernel
theorem dX10_copy_83 : decode cX10_copy 83 = .ok (.iload_n 2, 1) := by decide +kernel
theorem dX10_copy_84 : decode cX10_copy 84 = .ok (.iload 5, 2) := by decide +kernel
theorem dX10_copy_86 : decode cX10_copy 86 = .ok (.invokevirtual 98, 3) := by decide +kernel
theorem dX10_copy_89 : decode cX10_copy 89 = .ok (.ifCond .eq 18, 3) := by decide +kernel
theorem dX10_copy_92 : decode cX10_copy 92 = .ok (.aload_n 0, 1) := by decide +kernel
theorem dX10_copy_93 : decode cX10_copy 93 = .ok (.getfield 10, 3) := by decide +kernel
theorem dX10_copy_96 : decode cX10_copy 96 = .ok (.iload_n 3, 1) := by decide +kernel
theorem dX10_copy_97 : decode cX10_copy 97 = .ok (.iload 4, 2) := by decide +kernel
theorem dX10_copy_99 : decode cX10_copy 99 = .ok (.iload 5, 2) := by decide +kernel
theorem dX10_copy_101 : decode cX10_copy 101 = .ok (.invokevirtual 98, 3) := by decide +kernel
theorem dX10_copy_104 : decode cX10_copy 104 = .ok (.ifCond .ne 9, 3) := by decide +kernel
theorem dX10_copy_107 : decode cX10_copy 107 = .ok (.aload_n 0, 1) := by decide +kernel
theorem dX10_copy_108 : decode cX10_copy 108 = .ok (.iconst 2, 1) := by decide +kernel
theorem dX10_copy_109 : decode cX10_copy 109 = .ok (.invokevirtual 84, 3) := by decide +kernel
theorem dX10_copy_112 : decode cX10_copy 112 = .ok (.ireturn, 1) := by decide +kernel
theorem dX10_copy_113 : decode cX10_copy 113 = .ok (.aload_n 0, 1) := by decide +kernel
theorem dX10_copy_114 : decode cX10_copy 114 = .ok (.getfield 10, 3) := by decide +kernel
theorem dX10_copy_117 : decode cX10_copy 117 = .ok (.iload_n 1, 1) := by decide +kernel
theorem dX10_copy_118 : decode cX10_copy 118 = .ok (.iload_n 2, 1) := by decide +kernel
theorem dX10_copy_119 : decode cX10_copy 119 = .ok (.iload_n 3, 1) := by decide +kernel
theorem dX10_copy_120 : decode cX10_copy 120 = .ok (.iload 4, 2) := by decide +kernel
theorem dX10_copy_122 : decode cX10_copy 122 = .ok (.iload 5, 2) := by decide +kernel
theorem dX10_copy_124 : decode cX10_copy 124 = .ok (.invokevirtual 109, 3) := by decide +kernel
theorem dX10_copy_127 : decode cX10_copy 127 = .ok (.aload_n 0, 1) := by decide +kernel
theorem dX10_copy_128 : decode cX10_copy 128 = .ok (.iload 5, 2) := by decide +kernel
theorem dX10_copy_130 : decode cX10_copy 130 = .ok (.invokevirtual 92, 3) := by decide +kernel
theorem dX10_copy_133 : decode cX10_copy 133 = .ok (.ireturn, 1) := by decide +kernel
theorem dX10_drop_0 : decode cX10_drop 0 = .ok (.aload_n 0, 1) := by decide +kernel
theorem dX10_drop_1 : decode cX10_drop 1 = .ok (.getfield 10, 3) := by decide +kernel
theorem dX10_drop_4 : decode cX10_drop 4 = .ok (.iload_n 1, 1) := by decide +kernel
theorem dX10_drop_5 : decode cX10_drop 5 = .ok (.invokevirtual 79, 3) := by decide +kernel
theorem dX10_drop_8 : decode cX10_drop 8 = .ok (.ifCond .ne 6, 3) := by decide +kernel
theorem dX10_drop_11 : decode cX10_drop 11 = .ok (.ldc 83, 2) := by decide +kernel
theorem dX10_drop_13 : decode cX10_drop 13 = .ok (.ireturn, 1) := by decide +kernel
theorem dX10_drop_14 : decode cX10_drop 14 = .ok (.aload_n 0, 1) := by decide +kernel
theorem dX10_drop_15 : decode cX10_drop 15 = .ok (.getfield 10, 3) := by decide +kernel
theorem dX10_drop_18 : decode cX10_drop 18 = .ok (.iload_n 1, 1) := by decide +kernel
theorem dX10_drop_19 : decode cX10_drop 19 = .ok (.invokevirtual 95, 3) := by decide +kernel
theorem dX10_drop_22 : decode cX10_drop 22 = .ok (.ifCond .eq 9, 3) := by decide +kernel
theorem dX10_drop_25 : decode cX10_drop 25 = .ok (.aload_n 0, 1) := by decide +kernel
theorem dX10_drop_26 : decode cX10_drop 26 = .ok (.iconst 1, 1) := by decide +kernel
theorem dX10_drop_27 : decode cX10_drop 27 = .ok (.invokevirtual 84, 3) := by decide +kernel
theorem dX10_drop_30 : decode cX10_drop 30 = .ok (.ireturn, 1) := by decide +kernel
theorem dX10_drop_31 : decode cX10_drop 31 = .ok (.aload_n 0, 1) := by decide +kernel
theorem dX10_drop_32 : decode cX10_drop 32 = .ok (.getfield 10, 3) := by decide +kernel
theorem dX10_drop_35 : decode cX10_drop 35 = .ok (.iload_n 1, 1) := by decide +kernel
theorem dX10_drop_36 : decode cX10_drop 36 = .ok (.invokevirtual 113, 3) := by decide +kernel
theorem dX10_drop_39 : decode cX10_drop 39 = .ok (.istore_n 2, 1) := by decide +kernel
theorem dX10_drop_40 : decode cX10_drop 40 = .ok (.aload_n 0, 1) := by decide +kernel
theorem dX10_drop_41 : decode cX10_drop 41 = .ok (.getfield 10, 3) := by decide +kernel
theorem dX10_drop_44 : decode cX10_drop 44 = .ok (.iload_n 1, 1) := by decide +kernel
theorem dX10_drop_45 : decode cX10_drop 45 = .ok (.invokevirtual 116, 3) := by decide +kernel
theorem dX10_drop_48 : decode cX10_drop 48 = .ok (.aload_n 0, 1) := by decide +kernel
theorem dX10_drop_49 : decode cX10_drop 49 = .ok (.iload_n 2, 1) := by decide +kernel
theorem dX10_drop_50 : decode cX10_drop 50 = .ok (.invokevirtual 92, 3) := by decide +kernel
theorem dX10_drop_53 : decode cX10_drop 53 = .ok (.ireturn, 1) := by decide +kernel
theorem dX10_feed_0 : decode cX10_feed 0 = .ok (.iload_n 3, 1) := by decide +kernel
theorem dX10_feed_1 : decode cX10_feed 1 = .ok (.iconst 1, 1) := by decide +kernel
theorem dX10_feed_2 : decode cX10_feed 2 = .ok (.if_icmp .lt 9, 3) := by decide +kernel
theorem dX10_feed_5 : decode cX10_feed 5 = .ok (.iload_n 3, 1) := by decide +kernel
theorem dX10_feed_6 : decode cX10_feed 6 = .ok (.bipush 8, 2) := by decide +kernel
theorem dX10_feed_8 : decode cX10_feed 8 = .ok (.if_icmp .le 6, 3) := by decide +kernel
theorem dX10_feed_11 : decode cX10_feed 11 = .ok (.ldc 83, 2) := by decide +kernel
theorem dX10_feed_13 : decode cX10_feed 13 = .ok (.ireturn, 1) := by decide +kernel
theorem dX10_feed_14 : decode cX10_feed 14 = .ok (.aload_n 0, 1) := by decide +kernel
theorem dX10_feed_15 : decode cX10_feed 15 = .ok (.getfield 19, 3) := by decide +kernel
theorem dX10_feed_18 : decode cX10_feed 18 = .ok (.getfield 120, 3) := by decide +kernel
theorem dX10_feed_21 : decode cX10_feed 21 = .ok (.iload_n 3, 1) := by decide +kernel
theorem dX10_feed_22 : decode cX10_feed 22 = .ok (.invokevirtual 124, 3) := by decide +kernel
theorem dX10_feed_25 : decode cX10_feed 25 = .ok (.ifCond .ne 6, 3) := by decide +kernel
theorem dX10_feed_28 : decode cX10_feed 28 = .ok (.ldc 129, 2) := by decide +kernel
theorem dX10_feed_30 : decode cX10_feed 30 = .ok (.ireturn, 1) := by decide +kernel
theorem dX10_feed_31 : decode cX10_feed 31 = .ok (.iload_n 3, 1) := by decide +kernel
theorem dX10_feed_32 : decode cX10_feed 32 = .ok (.iconst 1, 1) := by decide +kernel
theorem dX10_feed_33 : decode cX10_feed 33 = .ok (.isub, 1) := by decide +kernel
theorem dX10_feed_34 : decode cX10_feed 34 = .ok (.istore 4, 2) := by decide +kernel
theorem dX10_feed_36 : decode cX10_feed 36 = .ok (.iload 4, 2) := by decide +kernel
theorem dX10_feed_38 : decode cX10_feed 38 = .ok (.ifCond .lt 28, 3) := by decide +kernel
theorem dX10_feed_41 : decode cX10_feed 41 = .ok (.aload_n 0, 1) := by decide +kernel
theorem dX10_feed_42 : decode cX10_feed 42 = .ok (.getfield 19, 3) := by decide +kernel
theorem dX10_feed_45 : decode cX10_feed 45 = .ok (.getfield 120, 3) := by decide +kernel
theorem dX10_feed_48 : decode cX10_feed 48 = .ok (.lload_n 1, 1) := by decide +kernel
theorem dX10_feed_49 : decode cX10_feed 49 = .ok (.bipush 8, 2) := by decide +kernel
theorem dX10_feed_51 : decode cX10_feed 51 = .ok (.iload 4, 2) := by decide +kernel
theorem dX10_feed_53 : decode cX10_feed 53 = .ok (.imul, 1) := by decide +kernel
theorem dX10_feed_54 : decode cX10_feed 54 = .ok (.lshr, 1) := by decide +kernel
theorem dX10_feed_55 : decode cX10_feed 55 = .ok (.l2i, 1) := by decide +kernel
theorem dX10_feed_56 : decode cX10_feed 56 = .ok (.i2b, 1) := by decide +kernel
theorem dX10_feed_57 : decode cX10_feed 57 = .ok (.invokevirtual 130, 3) := by decide +kernel
theorem dX10_feed_60 : decode cX10_feed 60 = .ok (.iinc 4 (-1), 3) := by decide +kernel
theorem dX10_feed_63 : decode cX10_feed 63 = .ok (.goto (-27), 3) := by decide +kernel
theorem dX10_feed_66 : decode cX10_feed 66 = .ok (.aload_n 0, 1) := by decide +kernel
theorem dX10_feed_67 : decode cX10_feed 67 = .ok (.getfield 19, 3) := by decide +kernel
theorem dX10_feed_70 : decode cX10_feed 70 = .ok (.getfield 120, 3) := by decide +kernel
theorem dX10_feed_73 : decode cX10_feed 73 = .ok (.getfield 134, 3) := by decide +kernel
theorem dX10_feed_76 : decode cX10_feed 76 = .ok (.ireturn, 1) := by decide +kernel
theorem dX10_walk_0 : decode cX10_walk 0 = .ok (.aload_n 0, 1) := by decide +kernel
theorem dX10_walk_1 : decode cX10_walk 1 = .ok (.getfield 19, 3) := by decide +kernel
theorem dX10_walk_4 : decode cX10_walk 4 = .ok (.aload_n 0, 1) := by decide +kernel
theorem dX10_walk_5 : decode cX10_walk 5 = .ok (.getfield 30, 3) := by decide +kernel
theorem dX10_walk_8 : decode cX10_walk 8 = .ok (.invokevirtual 137, 3) := by decide +kernel
theorem dX10_walk_11 : decode cX10_walk 11 = .ok (.aload_n 0, 1) := by decide +kernel
theorem dX10_walk_12 : decode cX10_walk 12 = .ok (.getfield 19, 3) := by decide +kernel
theorem dX10_walk_15 : decode cX10_walk 15 = .ok (.getfield 120, 3) := by decide +kernel
theorem dX10_walk_18 : decode cX10_walk 18 = .ok (.iconst 0, 1) := by decide +kernel
theorem dX10_walk_19 : decode cX10_walk 19 = .ok (.putfield 134, 3) := by decide +kernel
theorem dX10_walk_22 : decode cX10_walk 22 = .ok (.aload_n 0, 1) := by decide +kernel
theorem dX10_walk_23 : decode cX10_walk 23 = .ok (.getfield 19, 3) := by decide +kernel
theorem dX10_walk_26 : decode cX10_walk 26 = .ok (.getfield 141, 3) := by decide +kernel
theorem dX10_walk_29 : decode cX10_walk 29 = .ok (.ifCond .eq 28, 3) := by decide +kernel
theorem dX10_walk_32 : decode cX10_walk 32 = .ok (.aload_n 0, 1) := by decide +kernel
theorem dX10_walk_33 : decode cX10_walk 33 = .ok (.aload_n 0, 1) := by decide +kernel
theorem dX10_walk_34 : decode cX10_walk 34 = .ok (.getfield 19, 3) := by decide +kernel
theorem dX10_walk_37 : decode cX10_walk 37 = .ok (.getfield 141, 3) := by decide +kernel
theorem dX10_walk_40 : decode cX10_walk 40 = .ok (.putfield 72, 3) := by decide +kernel
theorem dX10_walk_43 : decode cX10_walk 43 = .ok (.ldc 143, 2) := by decide +kernel
theorem dX10_walk_45 : decode cX10_walk 45 = .ok (.aload_n 0, 1) := by decide +kernel
theorem dX10_walk_46 : decode cX10_walk 46 = .ok (.getfield 19, 3) := by decide +kernel
theorem dX10_walk_49 : decode cX10_walk 49 = .ok (.getfield 120, 3) := by decide +kernel
theorem dX10_walk_52 : decode cX10_walk 52 = .ok (.getfield 144, 3) := by decide +kernel
theorem dX10_walk_55 : decode cX10_walk 55 = .ok (.isub, 1) := by decide +kernel
theorem dX10_walk_56 : decode cX10_walk 56 = .ok (.ireturn, 1) := by decide +kernel
theorem dX10_walk_57 : decode cX10_walk 57 = .ok (.aload_n 0, 1) := by decide +kernel
theorem dX10_walk_58 : decode cX10_walk 58 = .ok (.getfield 26, 3) := by decide +kernel
theorem dX10_walk_61 : decode cX10_walk 61 = .ok (.aload_n 0, 1) := by decide +kernel
theorem dX10_walk_62 : decode cX10_walk 62 = .ok (.getfield 30, 3) := by decide +kernel
theorem dX10_walk_65 : decode cX10_walk 65 = .ok (.invokevirtual 147, 3) := by decide +kernel
theorem dX10_walk_68 : decode cX10_walk 68 = .ok (.aload_n 0, 1) := by decide +kernel
theorem dX10_walk_69 : decode cX10_walk 69 = .ok (.getfield 40, 3) := by decide +kernel
theorem dX10_walk_72 : decode cX10_walk 72 = .ok (.invokevirtual 150, 3) := by decide +kernel
theorem dX10_walk_75 : decode cX10_walk 75 = .ok (.aload_n 0, 1) := by decide +kernel
theorem dX10_walk_76 : decode cX10_walk 76 = .ok (.getfield 26, 3) := by decide +kernel
theorem dX10_walk_79 : decode cX10_walk 79 = .ok (.getfield 153, 3) := by decide +kernel
theorem dX10_walk_82 : decode cX10_walk 82 = .ok (.ireturn, 1) := by decide +kernel
theorem dX10_fault_0 : decode cX10_fault 0 = .ok (.aload_n 0, 1) := by decide +kernel
theorem dX10_fault_1 : decode cX10_fault 1 = .ok (.getfield 72, 3) := by decide +kernel
theorem dX10_fault_4 : decode cX10_fault 4 = .ok (.ireturn, 1) := by decide +kernel
theorem dX10_lay_0 : decode cX10_lay 0 = .ok (.aload_n 0, 1) := by decide +kernel
theorem dX10_lay_1 : decode cX10_lay 1 = .ok (.getfield 26, 3) := by decide +kernel
theorem dX10_lay_4 : decode cX10_lay 4 = .ok (.iload_n 1, 1) := by decide +kernel
theorem dX10_lay_5 : decode cX10_lay 5 = .ok (.invokevirtual 156, 3) := by decide +kernel
theorem dX10_lay_8 : decode cX10_lay 8 = .ok (.ifCond .eq 13, 3) := by decide +kernel
theorem dX10_lay_11 : decode cX10_lay 11 = .ok (.iload_n 2, 1) := by decide +kernel
theorem dX10_lay_12 : decode cX10_lay 12 = .ok (.iconst (-1), 1) := by decide +kernel
theorem dX10_lay_13 : decode cX10_lay 13 = .ok (.if_icmp .lt 8, 3) := by decide +kernel
theorem dX10_lay_16 : decode cX10_lay 16 = .ok (.iload_n 2, 1) := by decide +kernel
theorem dX10_lay_17 : decode cX10_lay 17 = .ok (.iconst 3, 1) := by decide +kernel
theorem dX10_lay_18 : decode cX10_lay 18 = .ok (.if_icmp .lt 6, 3) := by decide +kernel
theorem dX10_lay_21 : decode cX10_lay 21 = .ok (.ldc 83, 2) := by decide +kernel
theorem dX10_lay_23 : decode cX10_lay 23 = .ok (.ireturn, 1) := by decide +kernel
theorem dX10_lay_24 : decode cX10_lay 24 = .ok (.aload_n 0, 1) := by decide +kernel
theorem dX10_lay_25 : decode cX10_lay 25 = .ok (.getfield 40, 3) := by decide +kernel
theorem dX10_lay_28 : decode cX10_lay 28 = .ok (.aload_n 0, 1) := by decide +kernel
theorem dX10_lay_29 : decode cX10_lay 29 = .ok (.getfield 26, 3) := by decide +kernel
theorem dX10_lay_32 : decode cX10_lay 32 = .ok (.invokevirtual 159, 3) := by decide +kernel
theorem dX10_lay_35 : decode cX10_lay 35 = .ok (.aload_n 0, 1) := by decide +kernel
theorem dX10_lay_36 : decode cX10_lay 36 = .ok (.getfield 26, 3) := by decide +kernel
theorem dX10_lay_39 : decode cX10_lay 39 = .ok (.getfield 162, 3) := by decide +kernel
theorem dX10_lay_42 : decode cX10_lay 42 = .ok (.iconst 0, 1) := by decide +kernel
theorem dX10_lay_43 : decode cX10_lay 43 = .ok (.iload_n 1, 1) := by decide +kernel
theorem dX10_lay_44 : decode cX10_lay 44 = .ok (.iadd, 1) := by decide +kernel
theorem dX10_lay_45 : decode cX10_lay 45 = .ok (.iaload, 1) := by decide +kernel
theorem dX10_lay_46 : decode cX10_lay 46 = .ok (.istore_n 3, 1) := by decide +kernel
theorem dX10_lay_47 : decode cX10_lay 47 = .ok (.aload_n 0, 1) := by decide +kernel
theorem dX10_lay_48 : decode cX10_lay 48 = .ok (.getfield 26, 3) := by decide +kernel
theorem dX10_lay_51 : decode cX10_lay 51 = .ok (.getfield 162, 3) := by decide +kernel
theorem dX10_lay_54 : decode cX10_lay 54 = .ok (.iconst 0, 1) := by decide +kernel
theorem dX10_lay_55 : decode cX10_lay 55 = .ok (.iload_n 1, 1) := by decide +kernel
theorem dX10_lay_56 : decode cX10_lay 56 = .ok (.iadd, 1) := by decide +kernel
theorem dX10_lay_57 : decode cX10_lay 57 = .ok (.iload_n 2, 1) := by decide +kernel
theorem dX10_lay_58 : decode cX10_lay 58 = .ok (.iastore, 1) := by decide +kernel
theorem dX10_lay_59 : decode cX10_lay 59 = .ok (.iload_n 3, 1) := by decide +kernel
theorem dX10_lay_60 : decode cX10_lay 60 = .ok (.ireturn, 1) := by decide +kernel
theorem dX10_pitch_0 : decode cX10_pitch 0 = .ok (.aload_n 0, 1) := by decide +kernel
theorem dX10_pitch_1 : decode cX10_pitch 1 = .ok (.getfield 26, 3) := by decide +kernel
theorem dX10_pitch_4 : decode cX10_pitch 4 = .ok (.iload_n 1, 1) := by decide +kernel
theorem dX10_pitch_5 : decode cX10_pitch 5 = .ok (.invokevirtual 156, 3) := by decide +kernel
theorem dX10_pitch_8 : decode cX10_pitch 8 = .ok (.ifCond .ne 6, 3) := by decide +kernel
theorem dX10_pitch_11 : decode cX10_pitch 11 = .ok (.ldc 83, 2) := by decide +kernel
theorem dX10_pitch_13 : decode cX10_pitch 13 = .ok (.ireturn, 1) := by decide +kernel
theorem dX10_pitch_14 : decode cX10_pitch 14 = .ok (.aload_n 0, 1) := by decide +kernel
theorem dX10_pitch_15 : decode cX10_pitch 15 = .ok (.getfield 26, 3) := by decide +kernel
theorem dX10_pitch_18 : decode cX10_pitch 18 = .ok (.getfield 162, 3) := by decide +kernel
theorem dX10_pitch_21 : decode cX10_pitch 21 = .ok (.bipush 27, 2) := by decide +kernel
theorem dX10_pitch_23 : decode cX10_pitch 23 = .ok (.iload_n 1, 1) := by decide +kernel
theorem dX10_pitch_24 : decode cX10_pitch 24 = .ok (.iadd, 1) := by decide +kernel
theorem dX10_pitch_25 : decode cX10_pitch 25 = .ok (.iaload, 1) := by decide +kernel
theorem dX10_pitch_26 : decode cX10_pitch 26 = .ok (.ifCond .eq 6, 3) := by decide +kernel
theorem dX10_pitch_29 : decode cX10_pitch 29 = .ok (.ldc 166, 2) := by decide +kernel
theorem dX10_pitch_31 : decode cX10_pitch 31 = .ok (.ireturn, 1) := by decide +kernel
theorem dX10_pitch_32 : decode cX10_pitch 32 = .ok (.aload_n 0, 1) := by decide +kernel
theorem dX10_pitch_33 : decode cX10_pitch 33 = .ok (.getfield 40, 3) := by decide +kernel
theorem dX10_pitch_36 : decode cX10_pitch 36 = .ok (.aload_n 0, 1) := by decide +kernel
theorem dX10_pitch_37 : decode cX10_pitch 37 = .ok (.getfield 26, 3) := by decide +kernel
theorem dX10_pitch_40 : decode cX10_pitch 40 = .ok (.invokevirtual 159, 3) := by decide +kernel
theorem dX10_pitch_43 : decode cX10_pitch 43 = .ok (.aload_n 0, 1) := by decide +kernel
theorem dX10_pitch_44 : decode cX10_pitch 44 = .ok (.getfield 26, 3) := by decide +kernel
theorem dX10_pitch_47 : decode cX10_pitch 47 = .ok (.getfield 162, 3) := by decide +kernel
theorem dX10_pitch_50 : decode cX10_pitch 50 = .ok (.bipush 27, 2) := by decide +kernel
theorem dX10_pitch_52 : decode cX10_pitch 52 = .ok (.iload_n 1, 1) := by decide +kernel
theorem dX10_pitch_53 : decode cX10_pitch 53 = .ok (.iadd, 1) := by decide +kernel
theorem dX10_pitch_54 : decode cX10_pitch 54 = .ok (.iconst 1, 1) := by decide +kernel
theorem dX10_pitch_55 : decode cX10_pitch 55 = .ok (.iastore, 1) := by decide +kernel
theorem dX10_pitch_56 : decode cX10_pitch 56 = .ok (.aload_n 0, 1) := by decide +kernel
theorem dX10_pitch_57 : decode cX10_pitch 57 = .ok (.getfield 26, 3) := by decide +kernel
theorem dX10_pitch_60 : decode cX10_pitch 60 = .ok (.iload_n 1, 1) := by decide +kernel
theorem dX10_pitch_61 : decode cX10_pitch 61 = .ok (.invokevirtual 167, 3) := by decide +kernel
theorem dX10_pitch_64 : decode cX10_pitch 64 = .ok (.ireturn, 1) := by decide +kernel
theorem dX10_vow_0 : decode cX10_vow 0 = .ok (.aload_n 0, 1) := by decide +kernel
theorem dX10_vow_1 : decode cX10_vow 1 = .ok (.getfield 26, 3) := by decide +kernel
theorem dX10_vow_4 : decode cX10_vow 4 = .ok (.iload_n 1, 1) := by decide +kernel
theorem dX10_vow_5 : decode cX10_vow 5 = .ok (.invokevirtual 156, 3) := by decide +kernel
theorem dX10_vow_8 : decode cX10_vow 8 = .ok (.ifCond .eq 12, 3) := by decide +kernel
theorem dX10_vow_11 : decode cX10_vow 11 = .ok (.iload_n 2, 1) := by decide +kernel
theorem dX10_vow_12 : decode cX10_vow 12 = .ok (.ifCond .lt 8, 3) := by decide +kernel
theorem dX10_vow_15 : decode cX10_vow 15 = .ok (.iload_n 2, 1) := by decide +kernel
theorem dX10_vow_16 : decode cX10_vow 16 = .ok (.iconst 2, 1) := by decide +kernel
theorem dX10_vow_17 : decode cX10_vow 17 = .ok (.if_icmp .le 6, 3) := by decide +kernel
theorem dX10_vow_20 : decode cX10_vow 20 = .ok (.ldc 83, 2) := by decide +kernel
theorem dX10_vow_22 : decode cX10_vow 22 = .ok (.ireturn, 1) := by decide +kernel
theorem dX10_vow_23 : decode cX10_vow 23 = .ok (.aload_n 0, 1) := by decide +kernel
theorem dX10_vow_24 : decode cX10_vow 24 = .ok (.getfield 40, 3) := by decide +kernel
theorem dX10_vow_27 : decode cX10_vow 27 = .ok (.aload_n 0, 1) := by decide +kernel
theorem dX10_vow_28 : decode cX10_vow 28 = .ok (.getfield 26, 3) := by decide +kernel
theorem dX10_vow_31 : decode cX10_vow 31 = .ok (.invokevirtual 159, 3) := by decide +kernel
theorem dX10_vow_34 : decode cX10_vow 34 = .ok (.aload_n 0, 1) := by decide +kernel
theorem dX10_vow_35 : decode cX10_vow 35 = .ok (.getfield 26, 3) := by decide +kernel
theorem dX10_vow_38 : decode cX10_vow 38 = .ok (.getfield 162, 3) := by decide +kernel
theorem dX10_vow_41 : decode cX10_vow 41 = .ok (.bipush 9, 2) := by decide +kernel
theorem dX10_vow_43 : decode cX10_vow 43 = .ok (.iload_n 1, 1) := by decide +kernel
theorem dX10_vow_44 : decode cX10_vow 44 = .ok (.iadd, 1) := by decide +kernel
theorem dX10_vow_45 : decode cX10_vow 45 = .ok (.iaload, 1) := by decide +kernel
theorem dX10_vow_46 : decode cX10_vow 46 = .ok (.istore_n 3, 1) := by decide +kernel
theorem dX10_vow_47 : decode cX10_vow 47 = .ok (.aload_n 0, 1) := by decide +kernel
theorem dX10_vow_48 : decode cX10_vow 48 = .ok (.getfield 26, 3) := by decide +kernel
theorem dX10_vow_51 : decode cX10_vow 51 = .ok (.getfield 162, 3) := by decide +kernel
theorem dX10_vow_54 : decode cX10_vow 54 = .ok (.bipush 9, 2) := by decide +kernel
theorem dX10_vow_56 : decode cX10_vow 56 = .ok (.iload_n 1, 1) := by decide +kernel
theorem dX10_vow_57 : decode cX10_vow 57 = .ok (.iadd, 1) := by decide +kernel
theorem dX10_vow_58 : decode cX10_vow 58 = .ok (.iload_n 2, 1) := by decide +kernel
theorem dX10_vow_59 : decode cX10_vow 59 = .ok (.iastore, 1) := by decide +kernel
theorem dX10_vow_60 : decode cX10_vow 60 = .ok (.iload_n 3, 1) := by decide +kernel
theorem dX10_vow_61 : decode cX10_vow 61 = .ok (.ireturn, 1) := by decide +kernel
theorem dX10_splice_0 : decode cX10_splice 0 = .ok (.aload_n 0, 1) := by decide +kernel
theorem dX10_splice_1 : decode cX10_splice 1 = .ok (.getfield 26, 3) := by decide +kernel
theorem dX10_splice_4 : decode cX10_splice 4 = .ok (.iload_n 1, 1) := by decide +kernel
theorem dX10_splice_5 : decode cX10_splice 5 = .ok (.invokevirtual 156, 3) := by decide +kernel
theorem dX10_splice_8 : decode cX10_splice 8 = .ok (.ifCond .ne 6, 3) := by decide +kernel
theorem dX10_splice_11 : decode cX10_splice 11 = .ok (.ldc 83, 2) := by decide +kernel
theorem dX10_splice_13 : decode cX10_splice 13 = .ok (.ireturn, 1) := by decide +kernel
theorem dX10_splice_14 : decode cX10_splice 14 = .ok (.aload_n 0, 1) := by decide +kernel
theorem dX10_splice_15 : decode cX10_splice 15 = .ok (.getfield 40, 3) := by decide +kernel
end
section
theorem dX10_splice_18 : decode cX10_splice 18 = .ok (.aload_n 0, 1) := by decide +kernel
theorem dX10_splice_19 : decode cX10_splice 19 = .ok (.getfield 26, 3) := by decide +kernel
theorem dX10_splice_22 : decode cX10_splice 22 = .ok (.invokevirtual 159, 3) := by decide +kernel
theorem dX10_splice_25 : decode cX10_splice 25 = .ok (.aload_n 0, 1) := by decide +kernel
theorem dX10_splice_26 : decode cX10_splice 26 = .ok (.getfield 26, 3) := by decide +kernel
theorem dX10_splice_29 : decode cX10_splice 29 = .ok (.getfield 162, 3) := by decide +kernel
theorem dX10_splice_32 : decode cX10_splice 32 = .ok (.bipush 18, 2) := by decide +kernel
theorem dX10_splice_34 : decode cX10_splice 34 = .ok (.iload_n 1, 1) := by decide +kernel
theorem dX10_splice_35 : decode cX10_splice 35 = .ok (.iadd, 1) := by decide +kernel
theorem dX10_splice_36 : decode cX10_splice 36 = .ok (.iaload, 1) := by decide +kernel
theorem dX10_splice_37 : decode cX10_splice 37 = .ok (.istore_n 2, 1) := by decide +kernel
theorem dX10_splice_38 : decode cX10_splice 38 = .ok (.aload_n 0, 1) := by decide +kernel
theorem dX10_splice_39 : decode cX10_splice 39 = .ok (.getfield 26, 3) := by decide +kernel
theorem dX10_splice_42 : decode cX10_splice 42 = .ok (.getfield 162, 3) := by decide +kernel
theorem dX10_splice_45 : decode cX10_splice 45 = .ok (.bipush 18, 2) := by decide +kernel
theorem dX10_splice_47 : decode cX10_splice 47 = .ok (.iload_n 1, 1) := by decide +kernel
theorem dX10_splice_48 : decode cX10_splice 48 = .ok (.iadd, 1) := by decide +kernel
theorem dX10_splice_49 : decode cX10_splice 49 = .ok (.iconst 0, 1) := by decide +kernel
theorem dX10_splice_50 : decode cX10_splice 50 = .ok (.iastore, 1) := by decide +kernel
theorem dX10_splice_51 : decode cX10_splice 51 = .ok (.iload_n 2, 1) := by decide +kernel
theorem dX10_splice_52 : decode cX10_splice 52 = .ok (.ireturn, 1) := by decide +kernel
theorem dX10_pull_0 : decode cX10_pull 0 = .ok (.aload_n 0, 1) := by decide +kernel
theorem dX10_pull_1 : decode cX10_pull 1 = .ok (.getfield 26, 3) := by decide +kernel
theorem dX10_pull_4 : decode cX10_pull 4 = .ok (.getfield 170, 3) := by decide +kernel
theorem dX10_pull_7 : decode cX10_pull 7 = .ok (.ifCond .ne 6, 3) := by decide +kernel
theorem dX10_pull_10 : decode cX10_pull 10 = .ok (.ldc 166, 2) := by decide +kernel
theorem dX10_pull_12 : decode cX10_pull 12 = .ok (.ireturn, 1) := by decide +kernel
theorem dX10_pull_13 : decode cX10_pull 13 = .ok (.iload_n 1, 1) := by decide +kernel
theorem dX10_pull_14 : decode cX10_pull 14 = .ok (.invokestatic 174, 3) := by decide +kernel
theorem dX10_pull_17 : decode cX10_pull 17 = .ok (.ifCond .eq 10, 3) := by decide +kernel
theorem dX10_pull_20 : decode cX10_pull 20 = .ok (.iload_n 2, 1) := by decide +kernel
theorem dX10_pull_21 : decode cX10_pull 21 = .ok (.invokestatic 177, 3) := by decide +kernel
theorem dX10_pull_24 : decode cX10_pull 24 = .ok (.ifCond .ne 6, 3) := by decide +kernel
theorem dX10_pull_27 : decode cX10_pull 27 = .ok (.ldc 83, 2) := by decide +kernel
theorem dX10_pull_29 : decode cX10_pull 29 = .ok (.ireturn, 1) := by decide +kernel
theorem dX10_pull_30 : decode cX10_pull 30 = .ok (.aload_n 0, 1) := by decide +kernel
theorem dX10_pull_31 : decode cX10_pull 31 = .ok (.getfield 40, 3) := by decide +kernel
theorem dX10_pull_34 : decode cX10_pull 34 = .ok (.aload_n 0, 1) := by decide +kernel
theorem dX10_pull_35 : decode cX10_pull 35 = .ok (.getfield 26, 3) := by decide +kernel
theorem dX10_pull_38 : decode cX10_pull 38 = .ok (.invokevirtual 159, 3) := by decide +kernel
theorem dX10_pull_41 : decode cX10_pull 41 = .ok (.iload_n 1, 1) := by decide +kernel
theorem dX10_pull_42 : decode cX10_pull 42 = .ok (.iload_n 2, 1) := by decide +kernel
theorem dX10_pull_43 : decode cX10_pull 43 = .ok (.invokestatic 180, 3) := by decide +kernel
theorem dX10_pull_46 : decode cX10_pull 46 = .ok (.bipush 10, 2) := by decide +kernel
theorem dX10_pull_48 : decode cX10_pull 48 = .ok (.irem, 1) := by decide +kernel
theorem dX10_pull_49 : decode cX10_pull 49 = .ok (.iadd, 1) := by decide +kernel
theorem dX10_pull_50 : decode cX10_pull 50 = .ok (.aload_n 0, 1) := by decide +kernel
theorem dX10_pull_51 : decode cX10_pull 51 = .ok (.getfield 26, 3) := by decide +kernel
theorem dX10_pull_54 : decode cX10_pull 54 = .ok (.invokevirtual 183, 3) := by decide +kernel
theorem dX10_pull_57 : decode cX10_pull 57 = .ok (.if_icmp .le 21, 3) := by decide +kernel
theorem dX10_pull_60 : decode cX10_pull 60 = .ok (.aload_n 0, 1) := by decide +kernel
theorem dX10_pull_61 : decode cX10_pull 61 = .ok (.getfield 26, 3) := by decide +kernel
theorem dX10_pull_64 : decode cX10_pull 64 = .ok (.invokevirtual 187, 3) := by decide +kernel
theorem dX10_pull_67 : decode cX10_pull 67 = .ok (.istore_n 3, 1) := by decide +kernel
theorem dX10_pull_68 : decode cX10_pull 68 = .ok (.aload_n 0, 1) := by decide +kernel
theorem dX10_pull_69 : decode cX10_pull 69 = .ok (.getfield 26, 3) := by decide +kernel
theorem dX10_pull_72 : decode cX10_pull 72 = .ok (.iload_n 3, 1) := by decide +kernel
theorem dX10_pull_73 : decode cX10_pull 73 = .ok (.invokevirtual 190, 3) := by decide +kernel
theorem dX10_pull_76 : decode cX10_pull 76 = .ok (.iload_n 3, 1) := by decide +kernel
theorem dX10_pull_77 : decode cX10_pull 77 = .ok (.ireturn, 1) := by decide +kernel
theorem dX10_pull_78 : decode cX10_pull 78 = .ok (.aload_n 0, 1) := by decide +kernel
theorem dX10_pull_79 : decode cX10_pull 79 = .ok (.getfield 26, 3) := by decide +kernel
theorem dX10_pull_82 : decode cX10_pull 82 = .ok (.invokevirtual 193, 3) := by decide +kernel
theorem dX10_pull_85 : decode cX10_pull 85 = .ok (.ldc 196, 2) := by decide +kernel
theorem dX10_pull_87 : decode cX10_pull 87 = .ok (.ireturn, 1) := by decide +kernel
theorem dX10_year_0 : decode cX10_year 0 = .ok (.aload_n 0, 1) := by decide +kernel
theorem dX10_year_1 : decode cX10_year 1 = .ok (.getfield 26, 3) := by decide +kernel
theorem dX10_year_4 : decode cX10_year 4 = .ok (.getfield 170, 3) := by decide +kernel
theorem dX10_year_7 : decode cX10_year 7 = .ok (.ifCond .ne 6, 3) := by decide +kernel
theorem dX10_year_10 : decode cX10_year 10 = .ok (.ldc 166, 2) := by decide +kernel
theorem dX10_year_12 : decode cX10_year 12 = .ok (.ireturn, 1) := by decide +kernel
theorem dX10_year_13 : decode cX10_year 13 = .ok (.iload_n 1, 1) := by decide +kernel
theorem dX10_year_14 : decode cX10_year 14 = .ok (.invokestatic 177, 3) := by decide +kernel
theorem dX10_year_17 : decode cX10_year 17 = .ok (.ifCond .ne 6, 3) := by decide +kernel
theorem dX10_year_20 : decode cX10_year 20 = .ok (.ldc 83, 2) := by decide +kernel
theorem dX10_year_22 : decode cX10_year 22 = .ok (.ireturn, 1) := by decide +kernel
theorem dX10_year_23 : decode cX10_year 23 = .ok (.aload_n 0, 1) := by decide +kernel
theorem dX10_year_24 : decode cX10_year 24 = .ok (.getfield 40, 3) := by decide +kernel
theorem dX10_year_27 : decode cX10_year 27 = .ok (.aload_n 0, 1) := by decide +kernel
theorem dX10_year_28 : decode cX10_year 28 = .ok (.getfield 26, 3) := by decide +kernel
theorem dX10_year_31 : decode cX10_year 31 = .ok (.invokevirtual 159, 3) := by decide +kernel
theorem dX10_year_34 : decode cX10_year 34 = .ok (.iconst 0, 1) := by decide +kernel
theorem dX10_year_35 : decode cX10_year 35 = .ok (.istore_n 2, 1) := by decide +kernel
theorem dX10_year_36 : decode cX10_year 36 = .ok (.iload_n 1, 1) := by decide +kernel
theorem dX10_year_37 : decode cX10_year 37 = .ok (.istore_n 3, 1) := by decide +kernel
theorem dX10_year_38 : decode cX10_year 38 = .ok (.iconst 0, 1) := by decide +kernel
theorem dX10_year_39 : decode cX10_year 39 = .ok (.istore 4, 2) := by decide +kernel
theorem dX10_year_41 : decode cX10_year 41 = .ok (.iload 4, 2) := by decide +kernel
theorem dX10_year_43 : decode cX10_year 43 = .ok (.aload_n 0, 1) := by decide +kernel
theorem dX10_year_44 : decode cX10_year 44 = .ok (.getfield 26, 3) := by decide +kernel
theorem dX10_year_47 : decode cX10_year 47 = .ok (.getfield 153, 3) := by decide +kernel
theorem dX10_year_50 : decode cX10_year 50 = .ok (.if_icmp .ge 125, 3) := by decide +kernel
theorem dX10_year_53 : decode cX10_year 53 = .ok (.aload_n 0, 1) := by decide +kernel
theorem dX10_year_54 : decode cX10_year 54 = .ok (.getfield 26, 3) := by decide +kernel
theorem dX10_year_57 : decode cX10_year 57 = .ok (.getfield 162, 3) := by decide +kernel
theorem dX10_year_60 : decode cX10_year 60 = .ok (.bipush 9, 2) := by decide +kernel
theorem dX10_year_62 : decode cX10_year 62 = .ok (.iload 4, 2) := by decide +kernel
theorem dX10_year_64 : decode cX10_year 64 = .ok (.iadd, 1) := by decide +kernel
theorem dX10_year_65 : decode cX10_year 65 = .ok (.iaload, 1) := by decide +kernel
theorem dX10_year_66 : decode cX10_year 66 = .ok (.ifCond .ne 103, 3) := by decide +kernel
theorem dX10_year_69 : decode cX10_year 69 = .ok (.aload_n 0, 1) := by decide +kernel
theorem dX10_year_70 : decode cX10_year 70 = .ok (.getfield 26, 3) := by decide +kernel
theorem dX10_year_73 : decode cX10_year 73 = .ok (.getfield 197, 3) := by decide +kernel
theorem dX10_year_76 : decode cX10_year 76 = .ok (.iload 4, 2) := by decide +kernel
theorem dX10_year_78 : decode cX10_year 78 = .ok (.iaload, 1) := by decide +kernel
theorem dX10_year_79 : decode cX10_year 79 = .ok (.iconst 2, 1) := by decide +kernel
theorem dX10_year_80 : decode cX10_year 80 = .ok (.if_icmp .ne 7, 3) := by decide +kernel
theorem dX10_year_83 : decode cX10_year 83 = .ok (.iconst 1, 1) := by decide +kernel
theorem dX10_year_84 : decode cX10_year 84 = .ok (.goto 4, 3) := by decide +kernel
theorem dX10_year_87 : decode cX10_year 87 = .ok (.iconst 0, 1) := by decide +kernel
theorem dX10_year_88 : decode cX10_year 88 = .ok (.istore 5, 2) := by decide +kernel
theorem dX10_year_90 : decode cX10_year 90 = .ok (.aload_n 0, 1) := by decide +kernel
theorem dX10_year_91 : decode cX10_year 91 = .ok (.getfield 26, 3) := by decide +kernel
theorem dX10_year_94 : decode cX10_year 94 = .ok (.iload 4, 2) := by decide +kernel
theorem dX10_year_96 : decode cX10_year 96 = .ok (.invokevirtual 202, 3) := by decide +kernel
theorem dX10_year_99 : decode cX10_year 99 = .ok (.ifCond .eq 31, 3) := by decide +kernel
theorem dX10_year_102 : decode cX10_year 102 = .ok (.iload_n 3, 1) := by decide +kernel
theorem dX10_year_103 : decode cX10_year 103 = .ok (.invokestatic 180, 3) := by decide +kernel
theorem dX10_year_106 : decode cX10_year 106 = .ok (.istore_n 3, 1) := by decide +kernel
theorem dX10_year_107 : decode cX10_year 107 = .ok (.iload_n 3, 1) := by decide +kernel
theorem dX10_year_108 : decode cX10_year 108 = .ok (.bipush 10, 2) := by decide +kernel
theorem dX10_year_110 : decode cX10_year 110 = .ok (.irem, 1) := by decide +kernel
theorem dX10_year_111 : decode cX10_year 111 = .ok (.aload_n 0, 1) := by decide +kernel
theorem dX10_year_112 : decode cX10_year 112 = .ok (.getfield 26, 3) := by decide +kernel
theorem dX10_year_115 : decode cX10_year 115 = .ok (.iload 4, 2) := by decide +kernel
theorem dX10_year_117 : decode cX10_year 117 = .ok (.invokevirtual 205, 3) := by decide +kernel
theorem dX10_year_120 : decode cX10_year 120 = .ok (.if_icmp .ge 7, 3) := by decide +kernel
theorem dX10_year_123 : decode cX10_year 123 = .ok (.iconst 1, 1) := by decide +kernel
theorem dX10_year_124 : decode cX10_year 124 = .ok (.goto 4, 3) := by decide +kernel
theorem dX10_year_127 : decode cX10_year 127 = .ok (.iconst 0, 1) := by decide +kernel
theorem dX10_year_128 : decode cX10_year 128 = .ok (.istore 5, 2) := by decide +kernel
theorem dX10_year_130 : decode cX10_year 130 = .ok (.aload_n 0, 1) := by decide +kernel
theorem dX10_year_131 : decode cX10_year 131 = .ok (.getfield 26, 3) := by decide +kernel
theorem dX10_year_134 : decode cX10_year 134 = .ok (.getfield 162, 3) := by decide +kernel
theorem dX10_year_137 : decode cX10_year 137 = .ok (.bipush 9, 2) := by decide +kernel
theorem dX10_year_139 : decode cX10_year 139 = .ok (.iload 4, 2) := by decide +kernel
theorem dX10_year_141 : decode cX10_year 141 = .ok (.iadd, 1) := by decide +kernel
theorem dX10_year_142 : decode cX10_year 142 = .ok (.iload 5, 2) := by decide +kernel
theorem dX10_year_144 : decode cX10_year 144 = .ok (.ifCond .eq 7, 3) := by decide +kernel
theorem dX10_year_147 : decode cX10_year 147 = .ok (.iconst 1, 1) := by decide +kernel
theorem dX10_year_148 : decode cX10_year 148 = .ok (.goto 4, 3) := by decide +kernel
theorem dX10_year_151 : decode cX10_year 151 = .ok (.iconst 2, 1) := by decide +kernel
theorem dX10_year_152 : decode cX10_year 152 = .ok (.iastore, 1) := by decide +kernel
theorem dX10_year_153 : decode cX10_year 153 = .ok (.iload_n 2, 1) := by decide +kernel
theorem dX10_year_154 : decode cX10_year 154 = .ok (.iload 5, 2) := by decide +kernel
theorem dX10_year_156 : decode cX10_year 156 = .ok (.ifCond .eq 7, 3) := by decide +kernel
theorem dX10_year_159 : decode cX10_year 159 = .ok (.iconst 0, 1) := by decide +kernel
theorem dX10_year_160 : decode cX10_year 160 = .ok (.goto 7, 3) := by decide +kernel
theorem dX10_year_163 : decode cX10_year 163 = .ok (.iconst 1, 1) := by decide +kernel
theorem dX10_year_164 : decode cX10_year 164 = .ok (.iload 4, 2) := by decide +kernel
theorem dX10_year_166 : decode cX10_year 166 = .ok (.ishl, 1) := by decide +kernel
theorem dX10_year_167 : decode cX10_year 167 = .ok (.ior, 1) := by decide +kernel
theorem dX10_year_168 : decode cX10_year 168 = .ok (.istore_n 2, 1) := by decide +kernel
theorem dX10_year_169 : decode cX10_year 169 = .ok (.iinc 4 1, 3) := by decide +kernel
theorem dX10_year_172 : decode cX10_year 172 = .ok (.goto (-131), 3) := by decide +kernel
theorem dX10_year_175 : decode cX10_year 175 = .ok (.iload_n 2, 1) := by decide +kernel
theorem dX10_year_176 : decode cX10_year 176 = .ok (.ireturn, 1) := by decide +kernel
theorem dX10_undo_0 : decode cX10_undo 0 = .ok (.aload_n 0, 1) := by decide +kernel
theorem dX10_undo_1 : decode cX10_undo 1 = .ok (.getfield 40, 3) := by decide +kernel
theorem dX10_undo_4 : decode cX10_undo 4 = .ok (.getfield 208, 3) := by decide +kernel
theorem dX10_undo_7 : decode cX10_undo 7 = .ok (.ifCond .ne 6, 3) := by decide +kernel
theorem dX10_undo_10 : decode cX10_undo 10 = .ok (.ldc 166, 2) := by decide +kernel
theorem dX10_undo_12 : decode cX10_undo 12 = .ok (.ireturn, 1) := by decide +kernel
theorem dX10_undo_13 : decode cX10_undo 13 = .ok (.aload_n 0, 1) := by decide +kernel
theorem dX10_undo_14 : decode cX10_undo 14 = .ok (.getfield 40, 3) := by decide +kernel
theorem dX10_undo_17 : decode cX10_undo 17 = .ok (.aload_n 0, 1) := by decide +kernel
theorem dX10_undo_18 : decode cX10_undo 18 = .ok (.getfield 26, 3) := by decide +kernel
theorem dX10_undo_21 : decode cX10_undo 21 = .ok (.invokevirtual 211, 3) := by decide +kernel
theorem dX10_undo_24 : decode cX10_undo 24 = .ok (.aload_n 0, 1) := by decide +kernel
theorem dX10_undo_25 : decode cX10_undo 25 = .ok (.getfield 40, 3) := by decide +kernel
theorem dX10_undo_28 : decode cX10_undo 28 = .ok (.getfield 208, 3) := by decide +kernel
theorem dX10_undo_31 : decode cX10_undo 31 = .ok (.ireturn, 1) := by decide +kernel
theorem dX10_yarn_0 : decode cX10_yarn 0 = .ok (.aload_n 0, 1) := by decide +kernel
theorem dX10_yarn_1 : decode cX10_yarn 1 = .ok (.getfield 26, 3) := by decide +kernel
theorem dX10_yarn_4 : decode cX10_yarn 4 = .ok (.iload_n 1, 1) := by decide +kernel
theorem dX10_yarn_5 : decode cX10_yarn 5 = .ok (.invokevirtual 156, 3) := by decide +kernel
theorem dX10_yarn_8 : decode cX10_yarn 8 = .ok (.ifCond .ne 6, 3) := by decide +kernel
theorem dX10_yarn_11 : decode cX10_yarn 11 = .ok (.ldc 83, 2) := by decide +kernel
theorem dX10_yarn_13 : decode cX10_yarn 13 = .ok (.ireturn, 1) := by decide +kernel
theorem dX10_yarn_14 : decode cX10_yarn 14 = .ok (.iload_n 2, 1) := by decide +kernel
theorem dX10_yarn_15 : decode cX10_yarn 15 = .ok (.tableswitch 121 0 6 #[41, 51, 61, 70, 82, 95, 108], 41) := by decide +kernel
theorem dX10_yarn_56 : decode cX10_yarn 56 = .ok (.aload_n 0, 1) := by decide +kernel
theorem dX10_yarn_57 : decode cX10_yarn 57 = .ok (.getfield 26, 3) := by decide +kernel
theorem dX10_yarn_60 : decode cX10_yarn 60 = .ok (.getfield 214, 3) := by decide +kernel
theorem dX10_yarn_63 : decode cX10_yarn 63 = .ok (.iload_n 1, 1) := by decide +kernel
theorem dX10_yarn_64 : decode cX10_yarn 64 = .ok (.iaload, 1) := by decide +kernel
theorem dX10_yarn_65 : decode cX10_yarn 65 = .ok (.ireturn, 1) := by decide +kernel
theorem dX10_yarn_66 : decode cX10_yarn 66 = .ok (.aload_n 0, 1) := by decide +kernel
theorem dX10_yarn_67 : decode cX10_yarn 67 = .ok (.getfield 26, 3) := by decide +kernel
theorem dX10_yarn_70 : decode cX10_yarn 70 = .ok (.getfield 217, 3) := by decide +kernel
theorem dX10_yarn_73 : decode cX10_yarn 73 = .ok (.iload_n 1, 1) := by decide +kernel
theorem dX10_yarn_74 : decode cX10_yarn 74 = .ok (.iaload, 1) := by decide +kernel
theorem dX10_yarn_75 : decode cX10_yarn 75 = .ok (.ireturn, 1) := by decide +kernel
theorem dX10_yarn_76 : decode cX10_yarn 76 = .ok (.aload_n 0, 1) := by decide +kernel
theorem dX10_yarn_77 : decode cX10_yarn 77 = .ok (.getfield 26, 3) := by decide +kernel
theorem dX10_yarn_80 : decode cX10_yarn 80 = .ok (.iload_n 1, 1) := by decide +kernel
theorem dX10_yarn_81 : decode cX10_yarn 81 = .ok (.invokevirtual 167, 3) := by decide +kernel
theorem dX10_yarn_84 : decode cX10_yarn 84 = .ok (.ireturn, 1) := by decide +kernel
theorem dX10_yarn_85 : decode cX10_yarn 85 = .ok (.aload_n 0, 1) := by decide +kernel
theorem dX10_yarn_86 : decode cX10_yarn 86 = .ok (.getfield 26, 3) := by decide +kernel
theorem dX10_yarn_89 : decode cX10_yarn 89 = .ok (.getfield 162, 3) := by decide +kernel
theorem dX10_yarn_92 : decode cX10_yarn 92 = .ok (.iconst 0, 1) := by decide +kernel
theorem dX10_yarn_93 : decode cX10_yarn 93 = .ok (.iload_n 1, 1) := by decide +kernel
theorem dX10_yarn_94 : decode cX10_yarn 94 = .ok (.iadd, 1) := by decide +kernel
theorem dX10_yarn_95 : decode cX10_yarn 95 = .ok (.iaload, 1) := by decide +kernel
theorem dX10_yarn_96 : decode cX10_yarn 96 = .ok (.ireturn, 1) := by decide +kernel
theorem dX10_yarn_97 : decode cX10_yarn 97 = .ok (.aload_n 0, 1) := by decide +kernel
theorem dX10_yarn_98 : decode cX10_yarn 98 = .ok (.getfield 26, 3) := by decide +kernel
theorem dX10_yarn_101 : decode cX10_yarn 101 = .ok (.getfield 162, 3) := by decide +kernel
theorem dX10_yarn_104 : decode cX10_yarn 104 = .ok (.bipush 9, 2) := by decide +kernel
theorem dX10_yarn_106 : decode cX10_yarn 106 = .ok (.iload_n 1, 1) := by decide +kernel
theorem dX10_yarn_107 : decode cX10_yarn 107 = .ok (.iadd, 1) := by decide +kernel
theorem dX10_yarn_108 : decode cX10_yarn 108 = .ok (.iaload, 1) := by decide +kernel
theorem dX10_yarn_109 : decode cX10_yarn 109 = .ok (.ireturn, 1) := by decide +kernel
theorem dX10_yarn_110 : decode cX10_yarn 110 = .ok (.aload_n 0, 1) := by decide +kernel
theorem dX10_yarn_111 : decode cX10_yarn 111 = .ok (.getfield 26, 3) := by decide +kernel
theorem dX10_yarn_114 : decode cX10_yarn 114 = .ok (.getfield 162, 3) := by decide +kernel
theorem dX10_yarn_117 : decode cX10_yarn 117 = .ok (.bipush 18, 2) := by decide +kernel
theorem dX10_yarn_119 : decode cX10_yarn 119 = .ok (.iload_n 1, 1) := by decide +kernel
theorem dX10_yarn_120 : decode cX10_yarn 120 = .ok (.iadd, 1) := by decide +kernel
theorem dX10_yarn_121 : decode cX10_yarn 121 = .ok (.iaload, 1) := by decide +kernel
theorem dX10_yarn_122 : decode cX10_yarn 122 = .ok (.ireturn, 1) := by decide +kernel
theorem dX10_yarn_123 : decode cX10_yarn 123 = .ok (.aload_n 0, 1) := by decide +kernel
theorem dX10_yarn_124 : decode cX10_yarn 124 = .ok (.getfield 26, 3) := by decide +kernel
theorem dX10_yarn_127 : decode cX10_yarn 127 = .ok (.getfield 162, 3) := by decide +kernel
theorem dX10_yarn_130 : decode cX10_yarn 130 = .ok (.bipush 27, 2) := by decide +kernel
theorem dX10_yarn_132 : decode cX10_yarn 132 = .ok (.iload_n 1, 1) := by decide +kernel
theorem dX10_yarn_133 : decode cX10_yarn 133 = .ok (.iadd, 1) := by decide +kernel
theorem dX10_yarn_134 : decode cX10_yarn 134 = .ok (.iaload, 1) := by decide +kernel
theorem dX10_yarn_135 : decode cX10_yarn 135 = .ok (.ireturn, 1) := by decide +kernel
theorem dX10_yarn_136 : decode cX10_yarn 136 = .ok (.ldc 83, 2) := by decide +kernel
theorem dX10_yarn_138 : decode cX10_yarn 138 = .ok (.ireturn, 1) := by decide +kernel
theorem dX10_bears_0 : decode cX10_bears 0 = .ok (.aload_n 0, 1) := by decide +kernel
theorem dX10_bears_1 : decode cX10_bears 1 = .ok (.getfield 26, 3) := by decide +kernel
theorem dX10_bears_4 : decode cX10_bears 4 = .ok (.getfield 170, 3) := by decide +kernel
theorem dX10_bears_7 : decode cX10_bears 7 = .ok (.ifCond .ne 6, 3) := by decide +kernel
theorem dX10_bears_10 : decode cX10_bears 10 = .ok (.ldc 166, 2) := by decide +kernel
theorem dX10_bears_12 : decode cX10_bears 12 = .ok (.ireturn, 1) := by decide +kernel
theorem dX10_bears_13 : decode cX10_bears 13 = .ok (.iload_n 1, 1) := by decide +kernel
theorem dX10_bears_14 : decode cX10_bears 14 = .ok (.ifCond .lt 8, 3) := by decide +kernel
theorem dX10_bears_17 : decode cX10_bears 17 = .ok (.iload_n 1, 1) := by decide +kernel
theorem dX10_bears_18 : decode cX10_bears 18 = .ok (.iconst 3, 1) := by decide +kernel
theorem dX10_bears_19 : decode cX10_bears 19 = .ok (.if_icmp .le 6, 3) := by decide +kernel
theorem dX10_bears_22 : decode cX10_bears 22 = .ok (.ldc 83, 2) := by decide +kernel
theorem dX10_bears_24 : decode cX10_bears 24 = .ok (.ireturn, 1) := by decide +kernel
theorem dX10_bears_25 : decode cX10_bears 25 = .ok (.iload_n 1, 1) := by decide +kernel
theorem dX10_bears_26 : decode cX10_bears 26 = .ok (.iconst 3, 1) := by decide +kernel
theorem dX10_bears_27 : decode cX10_bears 27 = .ok (.if_icmp .ne 13, 3) := by decide +kernel
theorem dX10_bears_30 : decode cX10_bears 30 = .ok (.aload_n 0, 1) := by decide +kernel
theorem dX10_bears_31 : decode cX10_bears 31 = .ok (.getfield 26, 3) := by decide +kernel
theorem dX10_bears_34 : decode cX10_bears 34 = .ok (.invokevirtual 183, 3) := by decide +kernel
theorem dX10_bears_37 : decode cX10_bears 37 = .ok (.goto 11, 3) := by decide +kernel
theorem dX10_bears_40 : decode cX10_bears 40 = .ok (.aload_n 0, 1) := by decide +kernel
theorem dX10_bears_41 : decode cX10_bears 41 = .ok (.getfield 26, 3) := by decide +kernel
theorem dX10_bears_44 : decode cX10_bears 44 = .ok (.iload_n 1, 1) := by decide +kernel
theorem dX10_bears_45 : decode cX10_bears 45 = .ok (.invokevirtual 220, 3) := by decide +kernel
theorem dX10_bears_48 : decode cX10_bears 48 = .ok (.ireturn, 1) := by decide +kernel
theorem dX10_best_0 : decode cX10_best 0 = .ok (.aload_n 0, 1) := by decide +kernel
theorem dX10_best_1 : decode cX10_best 1 = .ok (.getfield 26, 3) := by decide +kernel
theorem dX10_best_4 : decode cX10_best 4 = .ok (.getfield 170, 3) := by decide +kernel
theorem dX10_best_7 : decode cX10_best 7 = .ok (.ifCond .ne 6, 3) := by decide +kernel
theorem dX10_best_10 : decode cX10_best 10 = .ok (.ldc 166, 2) := by decide +kernel
theorem dX10_best_12 : decode cX10_best 12 = .ok (.ireturn, 1) := by decide +kernel
theorem dX10_best_13 : decode cX10_best 13 = .ok (.iload_n 1, 1) := by decide +kernel
theorem dX10_best_14 : decode cX10_best 14 = .ok (.iconst (-1), 1) := by decide +kernel
theorem dX10_best_15 : decode cX10_best 15 = .ok (.if_icmp .eq 17, 3) := by decide +kernel
theorem dX10_best_18 : decode cX10_best 18 = .ok (.aload_n 0, 1) := by decide +kernel
theorem dX10_best_19 : decode cX10_best 19 = .ok (.getfield 26, 3) := by decide +kernel
theorem dX10_best_22 : decode cX10_best 22 = .ok (.iload_n 1, 1) := by decide +kernel
theorem dX10_best_23 : decode cX10_best 23 = .ok (.invokevirtual 156, 3) := by decide +kernel
theorem dX10_best_26 : decode cX10_best 26 = .ok (.ifCond .ne 6, 3) := by decide +kernel
theorem dX10_best_29 : decode cX10_best 29 = .ok (.ldc 83, 2) := by decide +kernel
theorem dX10_best_31 : decode cX10_best 31 = .ok (.ireturn, 1) := by decide +kernel
theorem dX10_best_32 : decode cX10_best 32 = .ok (.aload_n 0, 1) := by decide +kernel
theorem dX10_best_33 : decode cX10_best 33 = .ok (.getfield 47, 3) := by decide +kernel
theorem dX10_best_36 : decode cX10_best 36 = .ok (.aload_n 0, 1) := by decide +kernel
theorem dX10_best_37 : decode cX10_best 37 = .ok (.getfield 26, 3) := by decide +kernel
theorem dX10_best_40 : decode cX10_best 40 = .ok (.invokevirtual 223, 3) := by decide +kernel
theorem dX10_best_43 : decode cX10_best 43 = .ok (.iload_n 1, 1) := by decide +kernel
theorem dX10_best_44 : decode cX10_best 44 = .ok (.iconst (-1), 1) := by decide +kernel
theorem dX10_best_45 : decode cX10_best 45 = .ok (.if_icmp .ne 15, 3) := by decide +kernel
theorem dX10_best_48 : decode cX10_best 48 = .ok (.iconst 3, 1) := by decide +kernel
theorem dX10_best_49 : decode cX10_best 49 = .ok (.aload_n 0, 1) := by decide +kernel
theorem dX10_best_50 : decode cX10_best 50 = .ok (.getfield 47, 3) := by decide +kernel
theorem dX10_best_53 : decode cX10_best 53 = .ok (.getfield 226, 3) := by decide +kernel
theorem dX10_best_56 : decode cX10_best 56 = .ok (.imul, 1) := by decide +kernel
theorem dX10_best_57 : decode cX10_best 57 = .ok (.goto 12, 3) := by decide +kernel
theorem dX10_best_60 : decode cX10_best 60 = .ok (.aload_n 0, 1) := by decide +kernel
theorem dX10_best_61 : decode cX10_best 61 = .ok (.getfield 47, 3) := by decide +kernel
theorem dX10_best_64 : decode cX10_best 64 = .ok (.getfield 229, 3) := by decide +kernel
theorem dX10_best_67 : decode cX10_best 67 = .ok (.iload_n 1, 1) := by decide +kernel
theorem dX10_best_68 : decode cX10_best 68 = .ok (.iaload, 1) := by decide +kernel
theorem dX10_best_69 : decode cX10_best 69 = .ok (.ireturn, 1) := by decide +kernel
theorem dX10_cheapest_0 : decode cX10_cheapest 0 = .ok (.aload_n 0, 1) := by decide +kernel
theorem dX10_cheapest_1 : decode cX10_cheapest 1 = .ok (.getfield 26, 3) := by decide +kernel
theorem dX10_cheapest_4 : decode cX10_cheapest 4 = .ok (.getfield 170, 3) := by decide +kernel
theorem dX10_cheapest_7 : decode cX10_cheapest 7 = .ok (.ifCond .ne 6, 3) := by decide +kernel
theorem dX10_cheapest_10 : decode cX10_cheapest 10 = .ok (.ldc 166, 2) := by decide +kernel
theorem dX10_cheapest_12 : decode cX10_cheapest 12 = .ok (.ireturn, 1) := by decide +kernel
theorem dX10_cheapest_13 : decode cX10_cheapest 13 = .ok (.iload_n 1, 1) := by decide +kernel
theorem dX10_cheapest_14 : decode cX10_cheapest 14 = .ok (.invokestatic 174, 3) := by decide +kernel
theorem dX10_cheapest_17 : decode cX10_cheapest 17 = .ok (.ifCond .eq 12, 3) := by decide +kernel
theorem dX10_cheapest_20 : decode cX10_cheapest 20 = .ok (.iload_n 2, 1) := by decide +kernel
theorem dX10_cheapest_21 : decode cX10_cheapest 21 = .ok (.ifCond .lt 8, 3) := by decide +kernel
theorem dX10_cheapest_24 : decode cX10_cheapest 24 = .ok (.iload_n 2, 1) := by decide +kernel
theorem dX10_cheapest_25 : decode cX10_cheapest 25 = .ok (.iconst 1, 1) := by decide +kernel
theorem dX10_cheapest_26 : decode cX10_cheapest 26 = .ok (.if_icmp .le 6, 3) := by decide +kernel
theorem dX10_cheapest_29 : decode cX10_cheapest 29 = .ok (.ldc 83, 2) := by decide +kernel
theorem dX10_cheapest_31 : decode cX10_cheapest 31 = .ok (.ireturn, 1) := by decide +kernel
theorem dX10_cheapest_32 : decode cX10_cheapest 32 = .ok (.aload_n 0, 1) := by decide +kernel
theorem dX10_cheapest_33 : decode cX10_cheapest 33 = .ok (.getfield 54, 3) := by decide +kernel
theorem dX10_cheapest_36 : decode cX10_cheapest 36 = .ok (.aload_n 0, 1) := by decide +kernel
theorem dX10_cheapest_37 : decode cX10_cheapest 37 = .ok (.getfield 26, 3) := by decide +kernel
theorem dX10_cheapest_40 : decode cX10_cheapest 40 = .ok (.iload_n 1, 1) := by decide +kernel
theorem dX10_cheapest_41 : decode cX10_cheapest 41 = .ok (.invokevirtual 232, 3) := by decide +kernel
theorem dX10_cheapest_44 : decode cX10_cheapest 44 = .ok (.istore_n 3, 1) := by decide +kernel
theorem dX10_cheapest_45 : decode cX10_cheapest 45 = .ok (.iload_n 3, 1) := by decide +kernel
theorem dX10_cheapest_46 : decode cX10_cheapest 46 = .ok (.ifCond .ge 6, 3) := by decide +kernel
theorem dX10_cheapest_49 : decode cX10_cheapest 49 = .ok (.ldc 196, 2) := by decide +kernel
theorem dX10_cheapest_51 : decode cX10_cheapest 51 = .ok (.ireturn, 1) := by decide +kernel
theorem dX10_cheapest_52 : decode cX10_cheapest 52 = .ok (.iload_n 2, 1) := by decide +kernel
theorem dX10_cheapest_53 : decode cX10_cheapest 53 = .ok (.ifCond .ne 14, 3) := by decide +kernel
theorem dX10_cheapest_56 : decode cX10_cheapest 56 = .ok (.aload_n 0, 1) := by decide +kernel
theorem dX10_cheapest_57 : decode cX10_cheapest 57 = .ok (.getfield 26, 3) := by decide +kernel
theorem dX10_cheapest_60 : decode cX10_cheapest 60 = .ok (.iload_n 3, 1) := by decide +kernel
theorem dX10_cheapest_61 : decode cX10_cheapest 61 = .ok (.invokevirtual 235, 3) := by decide +kernel
theorem dX10_cheapest_64 : decode cX10_cheapest 64 = .ok (.goto 4, 3) := by decide +kernel
theorem dX10_cheapest_67 : decode cX10_cheapest 67 = .ok (.iload_n 3, 1) := by decide +kernel
theorem dX10_cheapest_68 : decode cX10_cheapest 68 = .ok (.ireturn, 1) := by decide +kernel
theorem dX10_odds_0 : decode cX10_odds 0 = .ok (.aload_n 0, 1) := by decide +kernel
theorem dX10_odds_1 : decode cX10_odds 1 = .ok (.getfield 26, 3) := by decide +kernel
theorem dX10_odds_4 : decode cX10_odds 4 = .ok (.getfield 170, 3) := by decide +kernel
theorem dX10_odds_7 : decode cX10_odds 7 = .ok (.ifCond .ne 6, 3) := by decide +kernel
theorem dX10_odds_10 : decode cX10_odds 10 = .ok (.ldc 166, 2) := by decide +kernel
theorem dX10_odds_12 : decode cX10_odds 12 = .ok (.ireturn, 1) := by decide +kernel
theorem dX10_odds_13 : decode cX10_odds 13 = .ok (.iload_n 1, 1) := by decide +kernel
theorem dX10_odds_14 : decode cX10_odds 14 = .ok (.invokestatic 174, 3) := by decide +kernel
theorem dX10_odds_17 : decode cX10_odds 17 = .ok (.ifCond .eq 12, 3) := by decide +kernel
theorem dX10_odds_20 : decode cX10_odds 20 = .ok (.iload_n 2, 1) := by decide +kernel
theorem dX10_odds_21 : decode cX10_odds 21 = .ok (.ifCond .lt 8, 3) := by decide +kernel
theorem dX10_odds_24 : decode cX10_odds 24 = .ok (.iload_n 2, 1) := by decide +kernel
theorem dX10_odds_25 : decode cX10_odds 25 = .ok (.iconst 1, 1) := by decide +kernel
theorem dX10_odds_26 : decode cX10_odds 26 = .ok (.if_icmp .le 6, 3) := by decide +kernel
theorem dX10_odds_29 : decode cX10_odds 29 = .ok (.ldc 83, 2) := by decide +kernel
theorem dX10_odds_31 : decode cX10_odds 31 = .ok (.ireturn, 1) := by decide +kernel
theorem dX10_odds_32 : decode cX10_odds 32 = .ok (.aload_n 0, 1) := by decide +kernel
theorem dX10_odds_33 : decode cX10_odds 33 = .ok (.getfield 61, 3) := by decide +kernel
theorem dX10_odds_36 : decode cX10_odds 36 = .ok (.aload_n 0, 1) := by decide +kernel
theorem dX10_odds_37 : decode cX10_odds 37 = .ok (.getfield 26, 3) := by decide +kernel
theorem dX10_odds_40 : decode cX10_odds 40 = .ok (.iload_n 1, 1) := by decide +kernel
theorem dX10_odds_41 : decode cX10_odds 41 = .ok (.invokevirtual 238, 3) := by decide +kernel
theorem dX10_odds_44 : decode cX10_odds 44 = .ok (.iload_n 2, 1) := by decide +kernel
theorem dX10_odds_45 : decode cX10_odds 45 = .ok (.ifCond .ne 13, 3) := by decide +kernel
theorem dX10_odds_48 : decode cX10_odds 48 = .ok (.aload_n 0, 1) := by decide +kernel
theorem dX10_odds_49 : decode cX10_odds 49 = .ok (.getfield 61, 3) := by decide +kernel
theorem dX10_odds_52 : decode cX10_odds 52 = .ok (.getfield 242, 3) := by decide +kernel
theorem dX10_odds_55 : decode cX10_odds 55 = .ok (.goto 10, 3) := by decide +kernel
theorem dX10_odds_58 : decode cX10_odds 58 = .ok (.aload_n 0, 1) := by decide +kernel
theorem dX10_odds_59 : decode cX10_odds 59 = .ok (.getfield 61, 3) := by decide +kernel
theorem dX10_odds_62 : decode cX10_odds 62 = .ok (.getfield 245, 3) := by decide +kernel
theorem dX10_odds_65 : decode cX10_odds 65 = .ok (.ireturn, 1) := by decide +kernel
theorem dX10_risk_0 : decode cX10_risk 0 = .ok (.aload_n 0, 1) := by decide +kernel
theorem dX10_risk_1 : decode cX10_risk 1 = .ok (.getfield 26, 3) := by decide +kernel
theorem dX10_risk_4 : decode cX10_risk 4 = .ok (.getfield 170, 3) := by decide +kernel
theorem dX10_risk_7 : decode cX10_risk 7 = .ok (.ifCond .ne 6, 3) := by decide +kernel
theorem dX10_risk_10 : decode cX10_risk 10 = .ok (.ldc 166, 2) := by decide +kernel
theorem dX10_risk_12 : decode cX10_risk 12 = .ok (.ireturn, 1) := by decide +kernel
theorem dX10_risk_13 : decode cX10_risk 13 = .ok (.aload_n 0, 1) := by decide +kernel
theorem dX10_risk_14 : decode cX10_risk 14 = .ok (.getfield 10, 3) := by decide +kernel
theorem dX10_risk_17 : decode cX10_risk 17 = .ok (.iload_n 1, 1) := by decide +kernel
theorem dX10_risk_18 : decode cX10_risk 18 = .ok (.invokevirtual 79, 3) := by decide +kernel
theorem dX10_risk_21 : decode cX10_risk 21 = .ok (.ifCond .eq 14, 3) := by decide +kernel
theorem dX10_risk_24 : decode cX10_risk 24 = .ok (.iload_n 3, 1) := by decide +kernel
theorem dX10_risk_25 : decode cX10_risk 25 = .ok (.iconst 1, 1) := by decide +kernel
theorem dX10_risk_26 : decode cX10_risk 26 = .ok (.if_icmp .lt 9, 3) := by decide +kernel
theorem dX10_risk_29 : decode cX10_risk 29 = .ok (.iload_n 3, 1) := by decide +kernel
theorem dX10_risk_30 : decode cX10_risk 30 = .ok (.bipush 40, 2) := by decide +kernel
theorem dX10_risk_32 : decode cX10_risk 32 = .ok (.if_icmp .le 6, 3) := by decide +kernel
theorem dX10_risk_35 : decode cX10_risk 35 = .ok (.ldc 83, 2) := by decide +kernel
theorem dX10_risk_37 : decode cX10_risk 37 = .ok (.ireturn, 1) := by decide +kernel
theorem dX10_risk_38 : decode cX10_risk 38 = .ok (.aload_n 0, 1) := by decide +kernel
theorem dX10_risk_39 : decode cX10_risk 39 = .ok (.getfield 10, 3) := by decide +kernel
theorem dX10_risk_42 : decode cX10_risk 42 = .ok (.iload_n 1, 1) := by decide +kernel
theorem dX10_risk_43 : decode cX10_risk 43 = .ok (.invokevirtual 95, 3) := by decide +kernel
theorem dX10_risk_46 : decode cX10_risk 46 = .ok (.ifCond .eq 9, 3) := by decide +kernel
theorem dX10_risk_49 : decode cX10_risk 49 = .ok (.aload_n 0, 1) := by decide +kernel
theorem dX10_risk_50 : decode cX10_risk 50 = .ok (.iconst 1, 1) := by decide +kernel
theorem dX10_risk_51 : decode cX10_risk 51 = .ok (.invokevirtual 84, 3) := by decide +kernel
theorem dX10_risk_54 : decode cX10_risk 54 = .ok (.ireturn, 1) := by decide +kernel
theorem dX10_risk_55 : decode cX10_risk 55 = .ok (.aload_n 0, 1) := by decide +kernel
theorem dX10_risk_56 : decode cX10_risk 56 = .ok (.getfield 10, 3) := by decide +kernel
theorem dX10_risk_59 : decode cX10_risk 59 = .ok (.iload_n 1, 1) := by decide +kernel
theorem dX10_risk_60 : decode cX10_risk 60 = .ok (.iload_n 2, 1) := by decide +kernel
theorem dX10_risk_61 : decode cX10_risk 61 = .ok (.iload_n 3, 1) := by decide +kernel
theorem dX10_risk_62 : decode cX10_risk 62 = .ok (.invokevirtual 98, 3) := by decide +kernel
theorem dX10_risk_65 : decode cX10_risk 65 = .ok (.ifCond .ne 9, 3) := by decide +kernel
theorem dX10_risk_68 : decode cX10_risk 68 = .ok (.aload_n 0, 1) := by decide +kernel
theorem dX10_risk_69 : decode cX10_risk 69 = .ok (.iconst 2, 1) := by decide +kernel
theorem dX10_risk_70 : decode cX10_risk 70 = .ok (.invokevirtual 84, 3) := by decide +kernel
theorem dX10_risk_73 : decode cX10_risk 73 = .ok (.ireturn, 1) := by decide +kernel
theorem dX10_risk_74 : decode cX10_risk 74 = .ok (.aload_n 0, 1) := by decide +kernel
theorem dX10_risk_75 : decode cX10_risk 75 = .ok (.getfield 10, 3) := by decide +kernel
theorem dX10_risk_78 : decode cX10_risk 78 = .ok (.iload_n 1, 1) := by decide +kernel
theorem dX10_risk_79 : decode cX10_risk 79 = .ok (.iload_n 2, 1) := by decide +kernel
theorem dX10_risk_80 : decode cX10_risk 80 = .ok (.iload_n 3, 1) := by decide +kernel
theorem dX10_risk_81 : decode cX10_risk 81 = .ok (.invokevirtual 248, 3) := by decide +kernel
theorem dX10_risk_84 : decode cX10_risk 84 = .ok (.ifCond .eq 6, 3) := by decide +kernel
theorem dX10_risk_87 : decode cX10_risk 87 = .ok (.ldc 83, 2) := by decide +kernel
theorem dX10_risk_89 : decode cX10_risk 89 = .ok (.ireturn, 1) := by decide +kernel
theorem dX10_risk_90 : decode cX10_risk 90 = .ok (.aload_n 0, 1) := by decide +kernel
theorem dX10_risk_91 : decode cX10_risk 91 = .ok (.aload_n 0, 1) := by decide +kernel
theorem dX10_risk_92 : decode cX10_risk 92 = .ok (.getfield 10, 3) := by decide +kernel
theorem dX10_risk_95 : decode cX10_risk 95 = .ok (.iload_n 1, 1) := by decide +kernel
theorem dX10_risk_96 : decode cX10_risk 96 = .ok (.iload_n 2, 1) := by decide +kernel
theorem dX10_risk_97 : decode cX10_risk 97 = .ok (.iload_n 3, 1) := by decide +kernel
theorem dX10_risk_98 : decode cX10_risk 98 = .ok (.aload_n 0, 1) := by decide +kernel
theorem dX10_risk_99 : decode cX10_risk 99 = .ok (.getfield 26, 3) := by decide +kernel
theorem dX10_risk_102 : decode cX10_risk 102 = .ok (.invokevirtual 183, 3) := by decide +kernel
theorem dX10_risk_105 : decode cX10_risk 105 = .ok (.invokevirtual 251, 3) := by decide +kernel
theorem dX10_risk_108 : decode cX10_risk 108 = .ok (.invokevirtual 92, 3) := by decide +kernel
theorem dX10_risk_111 : decode cX10_risk 111 = .ok (.ireturn, 1) := by decide +kernel
theorem dX10_whose_0 : decode cX10_whose 0 = .ok (.aload_n 0, 1) := by decide +kernel
theorem dX10_whose_1 : decode cX10_whose 1 = .ok (.getfield 26, 3) := by decide +kernel
theorem dX10_whose_4 : decode cX10_whose 4 = .ok (.getfield 170, 3) := by decide +kernel
theorem dX10_whose_7 : decode cX10_whose 7 = .ok (.ifCond .ne 6, 3) := by decide +kernel
theorem dX10_whose_10 : decode cX10_whose 10 = .ok (.ldc 166, 2) := by decide +kernel
theorem dX10_whose_12 : decode cX10_whose 12 = .ok (.ireturn, 1) := by decide +kernel
theorem dX10_whose_13 : decode cX10_whose 13 = .ok (.iload_n 1, 1) := by decide +kernel
theorem dX10_whose_14 : decode cX10_whose 14 = .ok (.invokestatic 174, 3) := by decide +kernel
theorem dX10_whose_17 : decode cX10_whose 17 = .ok (.ifCond .eq 15, 3) := by decide +kernel
theorem dX10_whose_20 : decode cX10_whose 20 = .ok (.iload_n 2, 1) := by decide +kernel
theorem dX10_whose_21 : decode cX10_whose 21 = .ok (.invokestatic 174, 3) := by decide +kernel
theorem dX10_whose_24 : decode cX10_whose 24 = .ok (.ifCond .eq 8, 3) := by decide +kernel
theorem dX10_whose_27 : decode cX10_whose 27 = .ok (.iload_n 2, 1) := by decide +kernel
theorem dX10_whose_28 : decode cX10_whose 28 = .ok (.iload_n 1, 1) := by decide +kernel
theorem dX10_whose_29 : decode cX10_whose 29 = .ok (.if_icmp .gt 6, 3) := by decide +kernel
theorem dX10_whose_32 : decode cX10_whose 32 = .ok (.ldc 83, 2) := by decide +kernel
theorem dX10_whose_34 : decode cX10_whose 34 = .ok (.ireturn, 1) := by decide +kernel
theorem dX10_whose_35 : decode cX10_whose 35 = .ok (.iconst 0, 1) := by decide +kernel
theorem dX10_whose_36 : decode cX10_whose 36 = .ok (.istore_n 3, 1) := by decide +kernel
theorem dX10_whose_37 : decode cX10_whose 37 = .ok (.iconst 0, 1) := by decide +kernel
theorem dX10_whose_38 : decode cX10_whose 38 = .ok (.istore 4, 2) := by decide +kernel
theorem dX10_whose_40 : decode cX10_whose 40 = .ok (.iload 4, 2) := by decide +kernel
theorem dX10_whose_42 : decode cX10_whose 42 = .ok (.aload_n 0, 1) := by decide +kernel
theorem dX10_whose_43 : decode cX10_whose 43 = .ok (.getfield 26, 3) := by decide +kernel
theorem dX10_whose_46 : decode cX10_whose 46 = .ok (.getfield 153, 3) := by decide +kernel
theorem dX10_whose_49 : decode cX10_whose 49 = .ok (.if_icmp .ge 72, 3) := by decide +kernel
theorem dX10_whose_52 : decode cX10_whose 52 = .ok (.aload_n 0, 1) := by decide +kernel
theorem dX10_whose_53 : decode cX10_whose 53 = .ok (.getfield 26, 3) := by decide +kernel
theorem dX10_whose_56 : decode cX10_whose 56 = .ok (.iload 4, 2) := by decide +kernel
theorem dX10_whose_58 : decode cX10_whose 58 = .ok (.invokevirtual 255, 3) := by decide +kernel
theorem dX10_whose_61 : decode cX10_whose 61 = .ok (.ifCond .eq 54, 3) := by decide +kernel
theorem dX10_whose_64 : decode cX10_whose 64 = .ok (.aload_n 0, 1) := by decide +kernel
theorem dX10_whose_65 : decode cX10_whose 65 = .ok (.getfield 26, 3) := by decide +kernel
theorem dX10_whose_68 : decode cX10_whose 68 = .ok (.getfield 162, 3) := by decide +kernel
theorem dX10_whose_71 : decode cX10_whose 71 = .ok (.bipush 9, 2) := by decide +kernel
theorem dX10_whose_73 : decode cX10_whose 73 = .ok (.iload 4, 2) := by decide +kernel
theorem dX10_whose_75 : decode cX10_whose 75 = .ok (.iadd, 1) := by decide +kernel
theorem dX10_whose_76 : decode cX10_whose 76 = .ok (.iaload, 1) := by decide +kernel
theorem dX10_whose_77 : decode cX10_whose 77 = .ok (.iconst 2, 1) := by decide +kernel
theorem dX10_whose_78 : decode cX10_whose 78 = .ok (.if_icmp .eq 37, 3) := by decide +kernel
theorem dX10_whose_81 : decode cX10_whose 81 = .ok (.aload_n 0, 1) := by decide +kernel
theorem dX10_whose_82 : decode cX10_whose 82 = .ok (.getfield 26, 3) := by decide +kernel
theorem dX10_whose_85 : decode cX10_whose 85 = .ok (.iload 4, 2) := by decide +kernel
theorem dX10_whose_87 : decode cX10_whose 87 = .ok (.invokevirtual 258, 3) := by decide +kernel
theorem dX10_whose_90 : decode cX10_whose 90 = .ok (.istore 5, 2) := by decide +kernel
theorem dX10_whose_92 : decode cX10_whose 92 = .ok (.iload_n 3, 1) := by decide +kernel
theorem dX10_whose_93 : decode cX10_whose 93 = .ok (.iload 5, 2) := by decide +kernel
theorem dX10_whose_95 : decode cX10_whose 95 = .ok (.iload_n 1, 1) := by decide +kernel
theorem dX10_whose_96 : decode cX10_whose 96 = .ok (.if_icmp .lt 16, 3) := by decide +kernel
theorem dX10_whose_99 : decode cX10_whose 99 = .ok (.iload 5, 2) := by decide +kernel
theorem dX10_whose_101 : decode cX10_whose 101 = .ok (.iload_n 2, 1) := by decide +kernel
theorem dX10_whose_102 : decode cX10_whose 102 = .ok (.if_icmp .ge 10, 3) := by decide +kernel
theorem dX10_whose_105 : decode cX10_whose 105 = .ok (.iconst 1, 1) := by decide +kernel
theorem dX10_whose_106 : decode cX10_whose 106 = .ok (.iload 4, 2) := by decide +kernel
theorem dX10_whose_108 : decode cX10_whose 108 = .ok (.ishl, 1) := by decide +kernel
theorem dX10_whose_109 : decode cX10_whose 109 = .ok (.goto 4, 3) := by decide +kernel
theorem dX10_whose_112 : decode cX10_whose 112 = .ok (.iconst 0, 1) := by decide +kernel
theorem dX10_whose_113 : decode cX10_whose 113 = .ok (.ior, 1) := by decide +kernel
theorem dX10_whose_114 : decode cX10_whose 114 = .ok (.istore_n 3, 1) := by decide +kernel
theorem dX10_whose_115 : decode cX10_whose 115 = .ok (.iinc 4 1, 3) := by decide +kernel
theorem dX10_whose_118 : decode cX10_whose 118 = .ok (.goto (-78), 3) := by decide +kernel
theorem dX10_whose_121 : decode cX10_whose 121 = .ok (.iload_n 3, 1) := by decide +kernel
theorem dX10_whose_122 : decode cX10_whose 122 = .ok (.ireturn, 1) := by decide +kernel
theorem dX10_geese_0 : decode cX10_geese 0 = .ok (.aload_n 0, 1) := by decide +kernel
theorem dX10_geese_1 : decode cX10_geese 1 = .ok (.getfield 26, 3) := by decide +kernel
theorem dX10_geese_4 : decode cX10_geese 4 = .ok (.getfield 170, 3) := by decide +kernel
theorem dX10_geese_7 : decode cX10_geese 7 = .ok (.ifCond .ne 6, 3) := by decide +kernel
theorem dX10_geese_10 : decode cX10_geese 10 = .ok (.ldc 166, 2) := by decide +kernel
theorem dX10_geese_12 : decode cX10_geese 12 = .ok (.ireturn, 1) := by decide +kernel
theorem dX10_geese_13 : decode cX10_geese 13 = .ok (.iload_n 1, 1) := by decide +kernel
theorem dX10_geese_14 : decode cX10_geese 14 = .ok (.ifCond .le 16, 3) := by decide +kernel
theorem dX10_geese_17 : decode cX10_geese 17 = .ok (.iload_n 1, 1) := by decide +kernel
theorem dX10_geese_18 : decode cX10_geese 18 = .ok (.iconst 1, 1) := by decide +kernel
theorem dX10_geese_19 : decode cX10_geese 19 = .ok (.aload_n 0, 1) := by decide +kernel
theorem dX10_geese_20 : decode cX10_geese 20 = .ok (.getfield 26, 3) := by decide +kernel
theorem dX10_geese_23 : decode cX10_geese 23 = .ok (.getfield 153, 3) := by decide +kernel
theorem dX10_geese_26 : decode cX10_geese 26 = .ok (.ishl, 1) := by decide +kernel
theorem dX10_geese_27 : decode cX10_geese 27 = .ok (.if_icmp .lt 6, 3) := by decide +kernel
theorem dX10_geese_30 : decode cX10_geese 30 = .ok (.ldc 83, 2) := by decide +kernel
theorem dX10_geese_32 : decode cX10_geese 32 = .ok (.ireturn, 1) := by decide +kernel
theorem dX10_geese_33 : decode cX10_geese 33 = .ok (.iconst 0, 1) := by decide +kernel
theorem dX10_geese_34 : decode cX10_geese 34 = .ok (.istore_n 2, 1) := by decide +kernel
theorem dX10_geese_35 : decode cX10_geese 35 = .ok (.iload_n 2, 1) := by decide +kernel
theorem dX10_geese_36 : decode cX10_geese 36 = .ok (.bipush 9, 2) := by decide +kernel
theorem dX10_geese_38 : decode cX10_geese 38 = .ok (.if_icmp .ge 19, 3) := by decide +kernel
theorem dX10_geese_41 : decode cX10_geese 41 = .ok (.iconst 1, 1) := by decide +kernel
theorem dX10_geese_42 : decode cX10_geese 42 = .ok (.iload_n 2, 1) := by decide +kernel
theorem dX10_geese_43 : decode cX10_geese 43 = .ok (.ishl, 1) := by decide +kernel
theorem dX10_geese_44 : decode cX10_geese 44 = .ok (.iload_n 1, 1) := by decide +kernel
theorem dX10_geese_45 : decode cX10_geese 45 = .ok (.invokestatic 261, 3) := by decide +kernel
theorem dX10_geese_48 : decode cX10_geese 48 = .ok (.if_icmp .ge 9, 3) := by decide +kernel
theorem dX10_geese_51 : decode cX10_geese 51 = .ok (.iinc 2 1, 3) := by decide +kernel
theorem dX10_geese_54 : decode cX10_geese 54 = .ok (.goto (-19), 3) := by decide +kernel
theorem dX10_geese_57 : decode cX10_geese 57 = .ok (.iload_n 2, 1) := by decide +kernel
theorem dX10_geese_58 : decode cX10_geese 58 = .ok (.ireturn, 1) := by decide +kernel
theorem dX10_fathoms_0 : decode cX10_fathoms 0 = .ok (.iload_n 1, 1) := by decide +kernel
theorem dX10_fathoms_1 : decode cX10_fathoms 1 = .ok (.ifCond .lt 14, 3) := by decide +kernel
theorem dX10_fathoms_4 : decode cX10_fathoms 4 = .ok (.iload_n 1, 1) := by decide +kernel
theorem dX10_fathoms_5 : decode cX10_fathoms 5 = .ok (.aload_n 0, 1) := by decide +kernel
theorem dX10_fathoms_6 : decode cX10_fathoms 6 = .ok (.getfield 26, 3) := by decide +kernel
theorem dX10_fathoms_9 : decode cX10_fathoms 9 = .ok (.getfield 266, 3) := by decide +kernel
theorem dX10_fathoms_12 : decode cX10_fathoms 12 = .ok (.if_icmp .lt 6, 3) := by decide +kernel
theorem dX10_fathoms_15 : decode cX10_fathoms 15 = .ok (.ldc 83, 2) := by decide +kernel
theorem dX10_fathoms_17 : decode cX10_fathoms 17 = .ok (.ireturn, 1) := by decide +kernel
theorem dX10_fathoms_18 : decode cX10_fathoms 18 = .ok (.iconst 0, 1) := by decide +kernel
theorem dX10_fathoms_19 : decode cX10_fathoms 19 = .ok (.istore_n 2, 1) := by decide +kernel
theorem dX10_fathoms_20 : decode cX10_fathoms 20 = .ok (.iconst 0, 1) := by decide +kernel
theorem dX10_fathoms_21 : decode cX10_fathoms 21 = .ok (.istore_n 3, 1) := by decide +kernel
theorem dX10_fathoms_22 : decode cX10_fathoms 22 = .ok (.iload_n 3, 1) := by decide +kernel
theorem dX10_fathoms_23 : decode cX10_fathoms 23 = .ok (.aload_n 0, 1) := by decide +kernel
theorem dX10_fathoms_24 : decode cX10_fathoms 24 = .ok (.getfield 26, 3) := by decide +kernel
theorem dX10_fathoms_27 : decode cX10_fathoms 27 = .ok (.getfield 153, 3) := by decide +kernel
theorem dX10_fathoms_30 : decode cX10_fathoms 30 = .ok (.if_icmp .ge 50, 3) := by decide +kernel
theorem dX10_fathoms_33 : decode cX10_fathoms 33 = .ok (.aload_n 0, 1) := by decide +kernel
theorem dX10_fathoms_34 : decode cX10_fathoms 34 = .ok (.getfield 26, 3) := by decide +kernel
theorem dX10_fathoms_37 : decode cX10_fathoms 37 = .ok (.getfield 214, 3) := by decide +kernel
theorem dX10_fathoms_40 : decode cX10_fathoms 40 = .ok (.iload_n 3, 1) := by decide +kernel
theorem dX10_fathoms_41 : decode cX10_fathoms 41 = .ok (.iaload, 1) := by decide +kernel
theorem dX10_fathoms_42 : decode cX10_fathoms 42 = .ok (.iload_n 1, 1) := by decide +kernel
theorem dX10_fathoms_43 : decode cX10_fathoms 43 = .ok (.if_icmp .ne 31, 3) := by decide +kernel
theorem dX10_fathoms_46 : decode cX10_fathoms 46 = .ok (.aload_n 0, 1) := by decide +kernel
theorem dX10_fathoms_47 : decode cX10_fathoms 47 = .ok (.getfield 26, 3) := by decide +kernel
theorem dX10_fathoms_50 : decode cX10_fathoms 50 = .ok (.getfield 162, 3) := by decide +kernel
theorem dX10_fathoms_53 : decode cX10_fathoms 53 = .ok (.bipush 9, 2) := by decide +kernel
theorem dX10_fathoms_55 : decode cX10_fathoms 55 = .ok (.iload_n 3, 1) := by decide +kernel
theorem dX10_fathoms_56 : decode cX10_fathoms 56 = .ok (.iadd, 1) := by decide +kernel
theorem dX10_fathoms_57 : decode cX10_fathoms 57 = .ok (.iaload, 1) := by decide +kernel
theorem dX10_fathoms_58 : decode cX10_fathoms 58 = .ok (.iconst 1, 1) := by decide +kernel
theorem dX10_fathoms_59 : decode cX10_fathoms 59 = .ok (.if_icmp .ne 15, 3) := by decide +kernel
theorem dX10_fathoms_62 : decode cX10_fathoms 62 = .ok (.iload_n 2, 1) := by decide +kernel
theorem dX10_fathoms_63 : decode cX10_fathoms 63 = .ok (.aload_n 0, 1) := by decide +kernel
theorem dX10_fathoms_64 : decode cX10_fathoms 64 = .ok (.getfield 26, 3) := by decide +kernel
theorem dX10_fathoms_67 : decode cX10_fathoms 67 = .ok (.getfield 217, 3) := by decide +kernel
theorem dX10_fathoms_70 : decode cX10_fathoms 70 = .ok (.iload_n 3, 1) := by decide +kernel
theorem dX10_fathoms_71 : decode cX10_fathoms 71 = .ok (.iaload, 1) := by decide +kernel
theorem dX10_fathoms_72 : decode cX10_fathoms 72 = .ok (.iadd, 1) := by decide +kernel
theorem dX10_fathoms_73 : decode cX10_fathoms 73 = .ok (.istore_n 2, 1) := by decide +kernel
theorem dX10_fathoms_74 : decode cX10_fathoms 74 = .ok (.iinc 3 1, 3) := by decide +kernel
theorem dX10_fathoms_77 : decode cX10_fathoms 77 = .ok (.goto (-55), 3) := by decide +kernel
theorem dX10_fathoms_80 : decode cX10_fathoms 80 = .ok (.iload_n 2, 1) := by decide +kernel
theorem dX10_fathoms_81 : decode cX10_fathoms 81 = .ok (.ireturn, 1) := by decide +kernel
theorem dX10_image_0 : decode cX10_image 0 = .ok (.iload_n 1, 1) := by decide +kernel
theorem dX10_image_1 : decode cX10_image 1 = .ok (.ifCond .lt 8, 3) := by decide +kernel
theorem dX10_image_4 : decode cX10_image 4 = .ok (.iload_n 1, 1) := by decide +kernel
theorem dX10_image_5 : decode cX10_image 5 = .ok (.iconst 2, 1) := by decide +kernel
theorem dX10_image_6 : decode cX10_image 6 = .ok (.if_icmp .lt 6, 3) := by decide +kernel
theorem dX10_image_9 : decode cX10_image 9 = .ok (.ldc 83, 2) := by decide +kernel
theorem dX10_image_11 : decode cX10_image 11 = .ok (.ireturn, 1) := by decide +kernel
theorem dX10_image_12 : decode cX10_image 12 = .ok (.aload_n 0, 1) := by decide +kernel
theorem dX10_image_13 : decode cX10_image 13 = .ok (.getfield 26, 3) := by decide +kernel
theorem dX10_image_16 : decode cX10_image 16 = .ok (.getfield 170, 3) := by decide +kernel
theorem dX10_image_19 : decode cX10_image 19 = .ok (.ifCond .ne 6, 3) := by decide +kernel
theorem dX10_image_22 : decode cX10_image 22 = .ok (.ldc 166, 2) := by decide +kernel
theorem dX10_image_24 : decode cX10_image 24 = .ok (.ireturn, 1) := by decide +kernel
theorem dX10_image_25 : decode cX10_image 25 = .ok (.aload_n 0, 1) := by decide +kernel
theorem dX10_image_26 : decode cX10_image 26 = .ok (.getfield 33, 3) := by decide +kernel
theorem dX10_image_29 : decode cX10_image 29 = .ok (.iload_n 1, 1) := by decide +kernel
theorem dX10_image_30 : decode cX10_image 30 = .ok (.aaload, 1) := by decide +kernel
theorem dX10_image_31 : decode cX10_image 31 = .ok (.astore_n 2, 1) := by decide +kernel
theorem dX10_image_32 : decode cX10_image 32 = .ok (.aload_n 2, 1) := by decide +kernel
theorem dX10_image_33 : decode cX10_image 33 = .ok (.ifnonnull 18, 3) := by decide +kernel
theorem dX10_image_36 : decode cX10_image 36 = .ok (.new 23, 3) := by decide +kernel
theorem dX10_image_39 : decode cX10_image 39 = .ok (.dup, 1) := by decide +kernel
theorem dX10_image_40 : decode cX10_image 40 = .ok (.invokespecial 25, 3) := by decide +kernel
theorem dX10_image_43 : decode cX10_image 43 = .ok (.astore_n 2, 1) := by decide +kernel
theorem dX10_image_44 : decode cX10_image 44 = .ok (.aload_n 0, 1) := by decide +kernel
theorem dX10_image_45 : decode cX10_image 45 = .ok (.getfield 33, 3) := by decide +kernel
theorem dX10_image_48 : decode cX10_image 48 = .ok (.iload_n 1, 1) := by decide +kernel
theorem dX10_image_49 : decode cX10_image 49 = .ok (.aload_n 2, 1) := by decide +kernel
theorem dX10_image_50 : decode cX10_image 50 = .ok (.aastore, 1) := by decide +kernel
theorem dX10_image_51 : decode cX10_image 51 = .ok (.aload_n 2, 1) := by decide +kernel
theorem dX10_image_52 : decode cX10_image 52 = .ok (.aload_n 0, 1) := by decide +kernel
theorem dX10_image_53 : decode cX10_image 53 = .ok (.getfield 26, 3) := by decide +kernel
theorem dX10_image_56 : decode cX10_image 56 = .ok (.invokevirtual 147, 3) := by decide +kernel
theorem dX10_image_59 : decode cX10_image 59 = .ok (.iconst 1, 1) := by decide +kernel
theorem dX10_image_60 : decode cX10_image 60 = .ok (.ireturn, 1) := by decide +kernel
theorem dX10_restore_0 : decode cX10_restore 0 = .ok (.iload_n 1, 1) := by decide +kernel
theorem dX10_restore_1 : decode cX10_restore 1 = .ok (.ifCond .lt 8, 3) := by decide +kernel
theorem dX10_restore_4 : decode cX10_restore 4 = .ok (.iload_n 1, 1) := by decide +kernel
theorem dX10_restore_5 : decode cX10_restore 5 = .ok (.iconst 2, 1) := by decide +kernel
theorem dX10_restore_6 : decode cX10_restore 6 = .ok (.if_icmp .lt 6, 3) := by decide +kernel
theorem dX10_restore_9 : decode cX10_restore 9 = .ok (.ldc 83, 2) := by decide +kernel
theorem dX10_restore_11 : decode cX10_restore 11 = .ok (.ireturn, 1) := by decide +kernel
theorem dX10_restore_12 : decode cX10_restore 12 = .ok (.aload_n 0, 1) := by decide +kernel
theorem dX10_restore_13 : decode cX10_restore 13 = .ok (.getfield 33, 3) := by decide +kernel
theorem dX10_restore_16 : decode cX10_restore 16 = .ok (.iload_n 1, 1) := by decide +kernel
theorem dX10_restore_17 : decode cX10_restore 17 = .ok (.aaload, 1) := by decide +kernel
theorem dX10_restore_18 : decode cX10_restore 18 = .ok (.astore_n 2, 1) := by decide +kernel
theorem dX10_restore_19 : decode cX10_restore 19 = .ok (.aload_n 2, 1) := by decide +kernel
theorem dX10_restore_20 : decode cX10_restore 20 = .ok (.ifnonnull 6, 3) := by decide +kernel
theorem dX10_restore_23 : decode cX10_restore 23 = .ok (.ldc 166, 2) := by decide +kernel
theorem dX10_restore_25 : decode cX10_restore 25 = .ok (.ireturn, 1) := by decide +kernel
theorem dX10_restore_26 : decode cX10_restore 26 = .ok (.aload_n 0, 1) := by decide +kernel
theorem dX10_restore_27 : decode cX10_restore 27 = .ok (.getfield 26, 3) := by decide +kernel
theorem dX10_restore_30 : decode cX10_restore 30 = .ok (.aload_n 2, 1) := by decide +kernel
theorem dX10_restore_31 : decode cX10_restore 31 = .ok (.invokevirtual 147, 3) := by decide +kernel
theorem dX10_restore_34 : decode cX10_restore 34 = .ok (.aload_n 0, 1) := by decide +kernel
theorem dX10_restore_35 : decode cX10_restore 35 = .ok (.getfield 40, 3) := by decide +kernel
theorem dX10_restore_38 : decode cX10_restore 38 = .ok (.invokevirtual 150, 3) := by decide +kernel
theorem dX10_restore_41 : decode cX10_restore 41 = .ok (.iconst 1, 1) := by decide +kernel
theorem dX10_restore_42 : decode cX10_restore 42 = .ok (.ireturn, 1) := by decide +kernel
theorem dX10_kind_0 : decode cX10_kind 0 = .ok (.aload_n 0, 1) := by decide +kernel
theorem dX10_kind_1 : decode cX10_kind 1 = .ok (.getfield 26, 3) := by decide +kernel
theorem dX10_kind_4 : decode cX10_kind 4 = .ok (.iload_n 1, 1) := by decide +kernel
theorem dX10_kind_5 : decode cX10_kind 5 = .ok (.invokevirtual 156, 3) := by decide +kernel
theorem dX10_kind_8 : decode cX10_kind 8 = .ok (.ifCond .eq 15, 3) := by decide +kernel
theorem dX10_kind_11 : decode cX10_kind 11 = .ok (.aload_n 0, 1) := by decide +kernel
theorem dX10_kind_12 : decode cX10_kind 12 = .ok (.getfield 26, 3) := by decide +kernel
theorem dX10_kind_15 : decode cX10_kind 15 = .ok (.getfield 197, 3) := by decide +kernel
theorem dX10_kind_18 : decode cX10_kind 18 = .ok (.iload_n 1, 1) := by decide +kernel
theorem dX10_kind_19 : decode cX10_kind 19 = .ok (.iaload, 1) := by decide +kernel
theorem dX10_kind_20 : decode cX10_kind 20 = .ok (.goto 5, 3) := by decide +kernel
theorem dX10_kind_23 : decode cX10_kind 23 = .ok (.ldc 83, 2) := by decide +kernel
theorem dX10_kind_25 : decode cX10_kind 25 = .ok (.ireturn, 1) := by decide +kernel
theorem dX10_as_0 : decode cX10_as 0 = .ok (.aload_n 0, 1) := by decide +kernel
theorem dX10_as_1 : decode cX10_as 1 = .ok (.getfield 26, 3) := by decide +kernel
theorem dX10_as_4 : decode cX10_as 4 = .ok (.iload_n 1, 1) := by decide +kernel
theorem dX10_as_5 : decode cX10_as 5 = .ok (.invokevirtual 156, 3) := by decide +kernel
theorem dX10_as_8 : decode cX10_as 8 = .ok (.ifCond .eq 12, 3) := by decide +kernel
theorem dX10_as_11 : decode cX10_as 11 = .ok (.iload_n 2, 1) := by decide +kernel
theorem dX10_as_12 : decode cX10_as 12 = .ok (.ifCond .lt 8, 3) := by decide +kernel
theorem dX10_as_15 : decode cX10_as 15 = .ok (.iload_n 2, 1) := by decide +kernel
theorem dX10_as_16 : decode cX10_as 16 = .ok (.iconst 5, 1) := by decide +kernel
theorem dX10_as_17 : decode cX10_as 17 = .ok (.if_icmp .le 6, 3) := by decide +kernel
theorem dX10_as_20 : decode cX10_as 20 = .ok (.ldc 83, 2) := by decide +kernel
theorem dX10_as_22 : decode cX10_as 22 = .ok (.ireturn, 1) := by decide +kernel
theorem dX10_as_23 : decode cX10_as 23 = .ok (.aload_n 0, 1) := by decide +kernel
theorem dX10_as_24 : decode cX10_as 24 = .ok (.getfield 26, 3) := by decide +kernel
theorem dX10_as_27 : decode cX10_as 27 = .ok (.getfield 197, 3) := by decide +kernel
theorem dX10_as_30 : decode cX10_as 30 = .ok (.iload_n 1, 1) := by decide +kernel
theorem dX10_as_31 : decode cX10_as 31 = .ok (.iaload, 1) := by decide +kernel
theorem dX10_as_32 : decode cX10_as 32 = .ok (.iload_n 2, 1) := by decide +kernel
theorem dX10_as_33 : decode cX10_as 33 = .ok (.invokestatic 269, 3) := by decide +kernel
theorem dX10_as_36 : decode cX10_as 36 = .ok (.ifCond .eq 11, 3) := by decide +kernel
theorem dX10_as_39 : decode cX10_as 39 = .ok (.aload_n 0, 1) := by decide +kernel
theorem dX10_as_40 : decode cX10_as 40 = .ok (.iload_n 1, 1) := by decide +kernel
theorem dX10_as_41 : decode cX10_as 41 = .ok (.invokevirtual 92, 3) := by decide +kernel
theorem dX10_as_44 : decode cX10_as 44 = .ok (.goto 8, 3) := by decide +kernel
theorem dX10_as_47 : decode cX10_as 47 = .ok (.aload_n 0, 1) := by decide +kernel
theorem dX10_as_48 : decode cX10_as 48 = .ok (.iconst 3, 1) := by decide +kernel
theorem dX10_as_49 : decode cX10_as 49 = .ok (.invokevirtual 84, 3) := by decide +kernel
theorem dX10_as_52 : decode cX10_as 52 = .ok (.ireturn, 1) := by decide +kernel
theorem dX10_ask_0 : decode cX10_ask 0 = .ok (.aload_n 0, 1) := by decide +kernel
theorem dX10_ask_1 : decode cX10_ask 1 = .ok (.getfield 26, 3) := by decide +kernel
theorem dX10_ask_4 : decode cX10_ask 4 = .ok (.iload_n 1, 1) := by decide +kernel
theorem dX10_ask_5 : decode cX10_ask 5 = .ok (.invokevirtual 156, 3) := by decide +kernel
theorem dX10_ask_8 : decode cX10_ask 8 = .ok (.ifCond .eq 12, 3) := by decide +kernel
theorem dX10_ask_11 : decode cX10_ask 11 = .ok (.iload_n 2, 1) := by decide +kernel
theorem dX10_ask_12 : decode cX10_ask 12 = .ok (.ifCond .lt 8, 3) := by decide +kernel
theorem dX10_ask_15 : decode cX10_ask 15 = .ok (.iload_n 2, 1) := by decide +kernel
theorem dX10_ask_16 : decode cX10_ask 16 = .ok (.iconst 1, 1) := by decide +kernel
theorem dX10_ask_17 : decode cX10_ask 17 = .ok (.if_icmp .le 6, 3) := by decide +kernel
theorem dX10_ask_20 : decode cX10_ask 20 = .ok (.ldc 83, 2) := by decide +kernel
theorem dX10_ask_22 : decode cX10_ask 22 = .ok (.ireturn, 1) := by decide +kernel
theorem dX10_ask_23 : decode cX10_ask 23 = .ok (.aload_n 0, 1) := by decide +kernel
theorem dX10_ask_24 : decode cX10_ask 24 = .ok (.getfield 68, 3) := by decide +kernel
theorem dX10_ask_27 : decode cX10_ask 27 = .ok (.aload_n 0, 1) := by decide +kernel
theorem dX10_ask_28 : decode cX10_ask 28 = .ok (.getfield 26, 3) := by decide +kernel
theorem dX10_ask_31 : decode cX10_ask 31 = .ok (.iload_n 1, 1) := by decide +kernel
theorem dX10_ask_32 : decode cX10_ask 32 = .ok (.iload_n 2, 1) := by decide +kernel
theorem dX10_ask_33 : decode cX10_ask 33 = .ok (.invokevirtual 273, 3) := by decide +kernel
theorem dX10_ask_36 : decode cX10_ask 36 = .ok (.ireturn, 1) := by decide +kernel
theorem dX10_trace_0 : decode cX10_trace 0 = .ok (.iload_n 1, 1) := by decide +kernel
theorem dX10_trace_1 : decode cX10_trace 1 = .ok (.ifCond .lt 26, 3) := by decide +kernel
theorem dX10_trace_4 : decode cX10_trace 4 = .ok (.iload_n 1, 1) := by decide +kernel
theorem dX10_trace_5 : decode cX10_trace 5 = .ok (.aload_n 0, 1) := by decide +kernel
theorem dX10_trace_6 : decode cX10_trace 6 = .ok (.getfield 68, 3) := by decide +kernel
theorem dX10_trace_9 : decode cX10_trace 9 = .ok (.getfield 277, 3) := by decide +kernel
theorem dX10_trace_12 : decode cX10_trace 12 = .ok (.if_icmp .ge 15, 3) := by decide +kernel
theorem dX10_trace_15 : decode cX10_trace 15 = .ok (.aload_n 0, 1) := by decide +kernel
theorem dX10_trace_16 : decode cX10_trace 16 = .ok (.getfield 68, 3) := by decide +kernel
theorem dX10_trace_19 : decode cX10_trace 19 = .ok (.getfield 280, 3) := by decide +kernel
theorem dX10_trace_22 : decode cX10_trace 22 = .ok (.iload_n 1, 1) := by decide +kernel
theorem dX10_trace_23 : decode cX10_trace 23 = .ok (.iaload, 1) := by decide +kernel
theorem dX10_trace_24 : decode cX10_trace 24 = .ok (.goto 5, 3) := by decide +kernel
theorem dX10_trace_27 : decode cX10_trace 27 = .ok (.ldc 196, 2) := by decide +kernel
theorem dX10_trace_29 : decode cX10_trace 29 = .ok (.ireturn, 1) := by decide +kernel
theorem dX10_count_0 : decode cX10_count 0 = .ok (.iload_n 1, 1) := by decide +kernel
theorem dX10_count_1 : decode cX10_count 1 = .ok (.tableswitch 102 0 6 #[43, 51, 59, 67, 75, 83, 91], 43) := by decide +kernel
theorem dX10_count_44 : decode cX10_count 44 = .ok (.aload_n 0, 1) := by decide +kernel
theorem dX10_count_45 : decode cX10_count 45 = .ok (.getfield 10, 3) := by decide +kernel
theorem dX10_count_48 : decode cX10_count 48 = .ok (.invokevirtual 283, 3) := by decide +kernel
theorem dX10_count_51 : decode cX10_count 51 = .ok (.ireturn, 1) := by decide +kernel
theorem dX10_count_52 : decode cX10_count 52 = .ok (.aload_n 0, 1) := by decide +kernel
theorem dX10_count_53 : decode cX10_count 53 = .ok (.getfield 26, 3) := by decide +kernel
theorem dX10_count_56 : decode cX10_count 56 = .ok (.getfield 266, 3) := by decide +kernel
theorem dX10_count_59 : decode cX10_count 59 = .ok (.ireturn, 1) := by decide +kernel
theorem dX10_count_60 : decode cX10_count 60 = .ok (.aload_n 0, 1) := by decide +kernel
theorem dX10_count_61 : decode cX10_count 61 = .ok (.getfield 26, 3) := by decide +kernel
theorem dX10_count_64 : decode cX10_count 64 = .ok (.getfield 153, 3) := by decide +kernel
theorem dX10_count_67 : decode cX10_count 67 = .ok (.ireturn, 1) := by decide +kernel
theorem dX10_count_68 : decode cX10_count 68 = .ok (.aload_n 0, 1) := by decide +kernel
theorem dX10_count_69 : decode cX10_count 69 = .ok (.getfield 26, 3) := by decide +kernel
theorem dX10_count_72 : decode cX10_count 72 = .ok (.invokevirtual 286, 3) := by decide +kernel
theorem dX10_count_75 : decode cX10_count 75 = .ok (.ireturn, 1) := by decide +kernel
theorem dX10_count_76 : decode cX10_count 76 = .ok (.aload_n 0, 1) := by decide +kernel
theorem dX10_count_77 : decode cX10_count 77 = .ok (.getfield 40, 3) := by decide +kernel
theorem dX10_count_80 : decode cX10_count 80 = .ok (.getfield 208, 3) := by decide +kernel
theorem dX10_count_83 : decode cX10_count 83 = .ok (.ireturn, 1) := by decide +kernel
theorem dX10_count_84 : decode cX10_count 84 = .ok (.aload_n 0, 1) := by decide +kernel
theorem dX10_count_85 : decode cX10_count 85 = .ok (.getfield 26, 3) := by decide +kernel
theorem dX10_count_88 : decode cX10_count 88 = .ok (.invokevirtual 289, 3) := by decide +kernel
theorem dX10_count_91 : decode cX10_count 91 = .ok (.ireturn, 1) := by decide +kernel
theorem dX10_count_92 : decode cX10_count 92 = .ok (.aload_n 0, 1) := by decide +kernel
theorem dX10_count_93 : decode cX10_count 93 = .ok (.getfield 19, 3) := by decide +kernel
theorem dX10_count_96 : decode cX10_count 96 = .ok (.getfield 120, 3) := by decide +kernel
theorem dX10_count_99 : decode cX10_count 99 = .ok (.getfield 134, 3) := by decide +kernel
theorem dX10_count_102 : decode cX10_count 102 = .ok (.ireturn, 1) := by decide +kernel
theorem dX10_count_103 : decode cX10_count 103 = .ok (.ldc 83, 2) := by decide +kernel
theorem dX10_count_105 : decode cX10_count 105 = .ok (.ireturn, 1) := by decide +kernel
theorem dX10_status_0 : decode cX10_status 0 = .ok (.aload_n 0, 1) := by decide +kernel
theorem dX10_status_1 : decode cX10_status 1 = .ok (.getfield 76, 3) := by decide +kernel
theorem dX10_status_4 : decode cX10_status 4 = .ok (.ireturn, 1) := by decide +kernel
theorem dX10_found_0 : decode cX10_found 0 = .ok (.aload_n 0, 1) := by decide +kernel
theorem dX10_found_1 : decode cX10_found 1 = .ok (.iload_n 1, 1) := by decide +kernel
theorem dX10_found_2 : decode cX10_found 2 = .ok (.putfield 76, 3) := by decide +kernel
theorem dX10_found_5 : decode cX10_found 5 = .ok (.ldc_w 292, 3) := by decide +kernel
theorem dX10_found_8 : decode cX10_found 8 = .ok (.iload_n 1, 1) := by decide +kernel
theorem dX10_found_9 : decode cX10_found 9 = .ok (.isub, 1) := by decide +kernel
theorem dX10_found_10 : decode cX10_found 10 = .ok (.ireturn, 1) := by decide +kernel
theorem dX10_foundNothing_0 : decode cX10_foundNothing 0 = .ok (.aload_n 0, 1) := by decide +kernel
theorem dX10_foundNothing_1 : decode cX10_foundNothing 1 = .ok (.iconst 0, 1) := by decide +kernel
theorem dX10_foundNothing_2 : decode cX10_foundNothing 2 = .ok (.putfield 76, 3) := by decide +kernel
theorem dX10_foundNothing_5 : decode cX10_foundNothing 5 = .ok (.iload_n 1, 1) := by decide +kernel
theorem dX10_foundNothing_6 : decode cX10_foundNothing 6 = .ok (.ireturn, 1) := by decide +kernel
theorem dX10_isLoad_0 : decode cX10_isLoad 0 = .ok (.iload_n 0, 1) := by decide +kernel
theorem dX10_isLoad_1 : decode cX10_isLoad 1 = .ok (.ifCond .lt 14, 3) := by decide +kernel
theorem dX10_isLoad_4 : decode cX10_isLoad 4 = .ok (.iload_n 0, 1) := by decide +kernel
theorem dX10_isLoad_5 : decode cX10_isLoad 5 = .ok (.sipush 9999, 3) := by decide +kernel
theorem dX10_isLoad_8 : decode cX10_isLoad 8 = .ok (.if_icmp .gt 7, 3) := by decide +kernel
theorem dX10_isLoad_11 : decode cX10_isLoad 11 = .ok (.iconst 1, 1) := by decide +kernel
theorem dX10_isLoad_12 : decode cX10_isLoad 12 = .ok (.goto 4, 3) := by decide +kernel
theorem dX10_isLoad_15 : decode cX10_isLoad 15 = .ok (.iconst 0, 1) := by decide +kernel
theorem dX10_isLoad_16 : decode cX10_isLoad 16 = .ok (.ireturn, 1) := by decide +kernel
theorem dX10_isSeed_0 : decode cX10_isSeed 0 = .ok (.iload_n 0, 1) := by decide +kernel
theorem dX10_isSeed_1 : decode cX10_isSeed 1 = .ok (.iconst 1, 1) := by decide +kernel
theorem dX10_isSeed_2 : decode cX10_isSeed 2 = .ok (.if_icmp .lt 14, 3) := by decide +kernel
theorem dX10_isSeed_5 : decode cX10_isSeed 5 = .ok (.iload_n 0, 1) := by decide +kernel
theorem dX10_isSeed_6 : decode cX10_isSeed 6 = .ok (.ldc_w 293, 3) := by decide +kernel
theorem dX10_isSeed_9 : decode cX10_isSeed 9 = .ok (.if_icmp .gt 7, 3) := by decide +kernel
theorem dX10_isSeed_12 : decode cX10_isSeed 12 = .ok (.iconst 1, 1) := by decide +kernel
theorem dX10_isSeed_13 : decode cX10_isSeed 13 = .ok (.goto 4, 3) := by decide +kernel
theorem dX10_isSeed_16 : decode cX10_isSeed 16 = .ok (.iconst 0, 1) := by decide +kernel
theorem dX10_isSeed_17 : decode cX10_isSeed 17 = .ok (.ireturn, 1) := by decide +kernel
theorem dX10_nextX_0 : decode cX10_nextX 0 = .ok (.iload_n 0, 1) := by decide +kernel
theorem dX10_nextX_1 : decode cX10_nextX 1 = .ok (.i2l, 1) := by decide +kernel
theorem dX10_nextX_2 : decode cX10_nextX 2 = .ok (.ldc2_w 294, 3) := by decide +kernel
theorem dX10_nextX_5 : decode cX10_nextX 5 = .ok (.lmul, 1) := by decide +kernel
theorem dX10_nextX_6 : decode cX10_nextX 6 = .ok (.ldc2_w 296, 3) := by decide +kernel
theorem dX10_nextX_9 : decode cX10_nextX 9 = .ok (.lrem, 1) := by decide +kernel
theorem dX10_nextX_10 : decode cX10_nextX 10 = .ok (.l2i, 1) := by decide +kernel
theorem dX10_nextX_11 : decode cX10_nextX 11 = .ok (.ireturn, 1) := by decide +kernel
theorem dX11_init_0 : decode cX11_init 0 = .ok (.aload_n 0, 1) := by decide +kernel
theorem dX11_init_1 : decode cX11_init 1 = .ok (.invokespecial 1, 3) := by decide +kernel
theorem dX11_init_4 : decode cX11_init 4 = .ok (.aload_n 0, 1) := by decide +kernel
theorem dX11_init_5 : decode cX11_init 5 = .ok (.bipush 8, 2) := by decide +kernel
theorem dX11_init_7 : decode cX11_init 7 = .ok (.newarray .int, 2) := by decide +kernel
theorem dX11_init_9 : decode cX11_init 9 = .ok (.dup, 1) := by decide +kernel
theorem dX11_init_10 : decode cX11_init 10 = .ok (.iconst 0, 1) := by decide +kernel
theorem dX11_init_11 : decode cX11_init 11 = .ok (.iconst (-1), 1) := by decide +kernel
theorem dX11_init_12 : decode cX11_init 12 = .ok (.iastore, 1) := by decide +kernel
theorem dX11_init_13 : decode cX11_init 13 = .ok (.dup, 1) := by decide +kernel
theorem dX11_init_14 : decode cX11_init 14 = .ok (.iconst 1, 1) := by decide +kernel
theorem dX11_init_15 : decode cX11_init 15 = .ok (.iconst (-1), 1) := by decide +kernel
theorem dX11_init_16 : decode cX11_init 16 = .ok (.iastore, 1) := by decide +kernel
theorem dX11_init_17 : decode cX11_init 17 = .ok (.dup, 1) := by decide +kernel
theorem dX11_init_18 : decode cX11_init 18 = .ok (.iconst 2, 1) := by decide +kernel
theorem dX11_init_19 : decode cX11_init 19 = .ok (.iconst (-1), 1) := by decide +kernel
theorem dX11_init_20 : decode cX11_init 20 = .ok (.iastore, 1) := by decide +kernel
theorem dX11_init_21 : decode cX11_init 21 = .ok (.dup, 1) := by decide +kernel
theorem dX11_init_22 : decode cX11_init 22 = .ok (.iconst 3, 1) := by decide +kernel
theorem dX11_init_23 : decode cX11_init 23 = .ok (.iconst (-1), 1) := by decide +kernel
theorem dX11_init_24 : decode cX11_init 24 = .ok (.iastore, 1) := by decide +kernel
theorem dX11_init_25 : decode cX11_init 25 = .ok (.dup, 1) := by decide +kernel
theorem dX11_init_26 : decode cX11_init 26 = .ok (.iconst 4, 1) := by decide +kernel
theorem dX11_init_27 : decode cX11_init 27 = .ok (.iconst (-1), 1) := by decide +kernel
theorem dX11_init_28 : decode cX11_init 28 = .ok (.iastore, 1) := by decide +kernel
theorem dX11_init_29 : decode cX11_init 29 = .ok (.dup, 1) := by decide +kernel
theorem dX11_init_30 : decode cX11_init 30 = .ok (.iconst 5, 1) := by decide +kernel
theorem dX11_init_31 : decode cX11_init 31 = .ok (.iconst (-1), 1) := by decide +kernel
theorem dX11_init_32 : decode cX11_init 32 = .ok (.iastore, 1) := by decide +kernel
theorem dX11_init_33 : decode cX11_init 33 = .ok (.dup, 1) := by decide +kernel
theorem dX11_init_34 : decode cX11_init 34 = .ok (.bipush 6, 2) := by decide +kernel
theorem dX11_init_36 : decode cX11_init 36 = .ok (.iconst (-1), 1) := by decide +kernel
theorem dX11_init_37 : decode cX11_init 37 = .ok (.iastore, 1) := by decide +kernel
theorem dX11_init_38 : decode cX11_init 38 = .ok (.dup, 1) := by decide +kernel
theorem dX11_init_39 : decode cX11_init 39 = .ok (.bipush 7, 2) := by decide +kernel
theorem dX11_init_41 : decode cX11_init 41 = .ok (.iconst (-1), 1) := by decide +kernel
theorem dX11_init_42 : decode cX11_init 42 = .ok (.iastore, 1) := by decide +kernel
theorem dX11_init_43 : decode cX11_init 43 = .ok (.putfield 7, 3) := by decide +kernel
theorem dX11_init_46 : decode cX11_init 46 = .ok (.aload_n 0, 1) := by decide +kernel
theorem dX11_init_47 : decode cX11_init 47 = .ok (.bipush 8, 2) := by decide +kernel
theorem dX11_init_49 : decode cX11_init 49 = .ok (.newarray .int, 2) := by decide +kernel
theorem dX11_init_51 : decode cX11_init 51 = .ok (.putfield 13, 3) := by decide +kernel
theorem dX11_init_54 : decode cX11_init 54 = .ok (.aload_n 0, 1) := by decide +kernel
theorem dX11_init_55 : decode cX11_init 55 = .ok (.sipush 320, 3) := by decide +kernel
theorem dX11_init_58 : decode cX11_init 58 = .ok (.newarray .int, 2) := by decide +kernel
theorem dX11_init_60 : decode cX11_init 60 = .ok (.putfield 16, 3) := by decide +kernel
theorem dX11_init_63 : decode cX11_init 63 = .ok (.aload_n 0, 1) := by decide +kernel
theorem dX11_init_64 : decode cX11_init 64 = .ok (.bipush 77, 2) := by decide +kernel
theorem dX11_init_66 : decode cX11_init 66 = .ok (.newarray .int, 2) := by decide +kernel
theorem dX11_init_68 : decode cX11_init 68 = .ok (.putfield 19, 3) := by decide +kernel
theorem dX11_init_71 : decode cX11_init 71 = .ok (.aload_n 0, 1) := by decide +kernel
theorem dX11_init_72 : decode cX11_init 72 = .ok (.bipush 77, 2) := by decide +kernel
theorem dX11_init_74 : decode cX11_init 74 = .ok (.newarray .int, 2) := by decide +kernel
theorem dX11_init_76 : decode cX11_init 76 = .ok (.putfield 22, 3) := by decide +kernel
theorem dX11_init_79 : decode cX11_init 79 = .ok (.aload_n 0, 1) := by decide +kernel
theorem dX11_init_80 : decode cX11_init 80 = .ok (.sipush 1848, 3) := by decide +kernel
theorem dX11_init_83 : decode cX11_init 83 = .ok (.newarray .int, 2) := by decide +kernel
theorem dX11_init_85 : decode cX11_init 85 = .ok (.putfield 25, 3) := by decide +kernel
theorem dX11_init_88 : decode cX11_init 88 = .ok (.aload_n 0, 1) := by decide +kernel
theorem dX11_init_89 : decode cX11_init 89 = .ok (.sipush 400, 3) := by decide +kernel
theorem dX11_init_92 : decode cX11_init 92 = .ok (.newarray .int, 2) := by decide +kernel
theorem dX11_init_94 : decode cX11_init 94 = .ok (.putfield 28, 3) := by decide +kernel
theorem dX11_init_97 : decode cX11_init 97 = .ok (.aload_n 0, 1) := by decide +kernel
theorem dX11_init_98 : decode cX11_init 98 = .ok (.iconst 3, 1) := by decide +kernel
theorem dX11_init_99 : decode cX11_init 99 = .ok (.newarray .int, 2) := by decide +kernel
theorem dX11_init_101 : decode cX11_init 101 = .ok (.putfield 31, 3) := by decide +kernel
theorem dX11_init_104 : decode cX11_init 104 = .ok (.aload_n 0, 1) := by decide +kernel
theorem dX11_init_105 : decode cX11_init 105 = .ok (.sipush 512, 3) := by decide +kernel
theorem dX11_init_108 : decode cX11_init 108 = .ok (.newarray .int, 2) := by decide +kernel
theorem dX11_init_110 : decode cX11_init 110 = .ok (.putfield 34, 3) := by decide +kernel
theorem dX11_init_113 : decode cX11_init 113 = .ok (.aload_n 0, 1) := by decide +kernel
theorem dX11_init_114 : decode cX11_init 114 = .ok (.sipush 512, 3) := by decide +kernel
theorem dX11_init_117 : decode cX11_init 117 = .ok (.newarray .int, 2) := by decide +kernel
theorem dX11_init_119 : decode cX11_init 119 = .ok (.putfield 37, 3) := by decide +kernel
theorem dX11_init_122 : decode cX11_init 122 = .ok (.aload_n 0, 1) := by decide +kernel
theorem dX11_init_123 : decode cX11_init 123 = .ok (.iconst 2, 1) := by decide +kernel
theorem dX11_init_124 : decode cX11_init 124 = .ok (.newarray .boolean, 2) := by decide +kernel
theorem dX11_init_126 : decode cX11_init 126 = .ok (.putfield 40, 3) := by decide +kernel
theorem dX11_init_129 : decode cX11_init 129 = .ok (.aload_n 0, 1) := by decide +kernel
theorem dX11_init_130 : decode cX11_init 130 = .ok (.sipush 154, 3) := by decide +kernel
theorem dX11_init_133 : decode cX11_init 133 = .ok (.newarray .int, 2) := by decide +kernel
theorem dX11_init_135 : decode cX11_init 135 = .ok (.putfield 44, 3) := by decide +kernel
theorem dX11_init_138 : decode cX11_init 138 = .ok (.aload_n 0, 1) := by decide +kernel
theorem dX11_init_139 : decode cX11_init 139 = .ok (.bipush 16, 2) := by decide +kernel
theorem dX11_init_141 : decode cX11_init 141 = .ok (.newarray .int, 2) := by decide +kernel
theorem dX11_init_143 : decode cX11_init 143 = .ok (.putfield 47, 3) := by decide +kernel
theorem dX11_init_146 : decode cX11_init 146 = .ok (.return_, 1) := by decide +kernel
theorem dX11_in_0 : decode cX11_in 0 = .ok (.lload_n 0, 1) := by decide +kernel
theorem dX11_in_1 : decode cX11_in 1 = .ok (.lload_n 2, 1) := by decide +kernel
theorem dX11_in_2 : decode cX11_in 2 = .ok (.lcmp, 1) := by decide +kernel
theorem dX11_in_3 : decode cX11_in 3 = .ok (.ifCond .lt 14, 3) := by decide +kernel
theorem dX11_in_6 : decode cX11_in 6 = .ok (.lload_n 0, 1) := by decide +kernel
theorem dX11_in_7 : decode cX11_in 7 = .ok (.lload 4, 2) := by decide +kernel
theorem dX11_in_9 : decode cX11_in 9 = .ok (.lcmp, 1) := by decide +kernel
theorem dX11_in_10 : decode cX11_in 10 = .ok (.ifCond .gt 7, 3) := by decide +kernel
theorem dX11_in_13 : decode cX11_in 13 = .ok (.iconst 1, 1) := by decide +kernel
theorem dX11_in_14 : decode cX11_in 14 = .ok (.goto 4, 3) := by decide +kernel
theorem dX11_in_17 : decode cX11_in 17 = .ok (.iconst 0, 1) := by decide +kernel
theorem dX11_in_18 : decode cX11_in 18 = .ok (.ireturn, 1) := by decide +kernel
theorem dX11_finding_0 : decode cX11_finding 0 = .ok (.aload_n 0, 1) := by decide +kernel
theorem dX11_finding_1 : decode cX11_finding 1 = .ok (.iload_n 1, 1) := by decide +kernel
theorem dX11_finding_2 : decode cX11_finding 2 = .ok (.putfield 54, 3) := by decide +kernel
theorem dX11_finding_5 : decode cX11_finding 5 = .ok (.ldc 57, 2) := by decide +kernel
theorem dX11_finding_7 : decode cX11_finding 7 = .ok (.iload_n 1, 1) := by decide +kernel
theorem dX11_finding_8 : decode cX11_finding 8 = .ok (.isub, 1) := by decide +kernel
theorem dX11_finding_9 : decode cX11_finding 9 = .ok (.ireturn, 1) := by decide +kernel
theorem dX11_isRow_0 : decode cX11_isRow 0 = .ok (.iload_n 0, 1) := by decide +kernel
theorem dX11_isRow_1 : decode cX11_isRow 1 = .ok (.i2l, 1) := by decide +kernel
theorem dX11_isRow_2 : decode cX11_isRow 2 = .ok (.lconst 0, 1) := by decide +kernel
theorem dX11_isRow_3 : decode cX11_isRow 3 = .ok (.ldc2_w 58, 3) := by decide +kernel
theorem dX11_isRow_6 : decode cX11_isRow 6 = .ok (.invokestatic 60, 3) := by decide +kernel
theorem dX11_isRow_9 : decode cX11_isRow 9 = .ok (.ireturn, 1) := by decide +kernel
theorem dX11_row_0 : decode cX11_row 0 = .ok (.aload_n 0, 1) := by decide +kernel
theorem dX11_row_1 : decode cX11_row 1 = .ok (.iconst 0, 1) := by decide +kernel
theorem dX11_row_2 : decode cX11_row 2 = .ok (.putfield 50, 3) := by decide +kernel
theorem dX11_row_5 : decode cX11_row 5 = .ok (.iload_n 1, 1) := by decide +kernel
theorem dX11_row_6 : decode cX11_row 6 = .ok (.invokestatic 64, 3) := by decide +kernel
theorem dX11_row_9 : decode cX11_row 9 = .ok (.ifCond .eq 21, 3) := by decide +kernel
theorem dX11_row_12 : decode cX11_row 12 = .ok (.iload_n 2, 1) := by decide +kernel
theorem dX11_row_13 : decode cX11_row 13 = .ok (.i2l, 1) := by decide +kernel
theorem dX11_row_14 : decode cX11_row 14 = .ok (.lconst 0, 1) := by decide +kernel
theorem dX11_row_15 : decode cX11_row 15 = .ok (.ldc2_w 68, 3) := by decide +kernel
theorem dX11_row_18 : decode cX11_row 18 = .ok (.invokestatic 60, 3) := by decide +kernel
theorem dX11_row_21 : decode cX11_row 21 = .ok (.ifCond .eq 9, 3) := by decide +kernel
theorem dX11_row_24 : decode cX11_row 24 = .ok (.iload_n 3, 1) := by decide +kernel
theorem dX11_row_25 : decode cX11_row 25 = .ok (.bipush 40, 2) := by decide +kernel
theorem dX11_row_27 : decode cX11_row 27 = .ok (.if_icmp .le 6, 3) := by decide +kernel
theorem dX11_row_30 : decode cX11_row 30 = .ok (.ldc 70, 2) := by decide +kernel
theorem dX11_row_32 : decode cX11_row 32 = .ok (.ireturn, 1) := by decide +kernel
theorem dX11_row_33 : decode cX11_row 33 = .ok (.aload_n 0, 1) := by decide +kernel
theorem dX11_row_34 : decode cX11_row 34 = .ok (.iconst 0, 1) := by decide +kernel
theorem dX11_row_35 : decode cX11_row 35 = .ok (.putfield 54, 3) := by decide +kernel
theorem dX11_row_38 : decode cX11_row 38 = .ok (.iload_n 3, 1) := by decide +kernel
theorem dX11_row_39 : decode cX11_row 39 = .ok (.ifCond .ge 9, 3) := by decide +kernel
theorem dX11_row_42 : decode cX11_row 42 = .ok (.aload_n 0, 1) := by decide +kernel
theorem dX11_row_43 : decode cX11_row 43 = .ok (.iconst 4, 1) := by decide +kernel
theorem dX11_row_44 : decode cX11_row 44 = .ok (.invokevirtual 71, 3) := by decide +kernel
theorem dX11_row_47 : decode cX11_row 47 = .ok (.ireturn, 1) := by decide +kernel
theorem dX11_row_48 : decode cX11_row 48 = .ok (.aload_n 0, 1) := by decide +kernel
theorem dX11_row_49 : decode cX11_row 49 = .ok (.getfield 7, 3) := by decide +kernel
theorem dX11_row_52 : decode cX11_row 52 = .ok (.iload_n 1, 1) := by decide +kernel
theorem dX11_row_53 : decode cX11_row 53 = .ok (.iload_n 2, 1) := by decide +kernel
theorem dX11_row_54 : decode cX11_row 54 = .ok (.iastore, 1) := by decide +kernel
theorem dX11_row_55 : decode cX11_row 55 = .ok (.aload_n 0, 1) := by decide +kernel
theorem dX11_row_56 : decode cX11_row 56 = .ok (.getfield 13, 3) := by decide +kernel
theorem dX11_row_59 : decode cX11_row 59 = .ok (.iload_n 1, 1) := by decide +kernel
theorem dX11_row_60 : decode cX11_row 60 = .ok (.iload_n 3, 1) := by decide +kernel
theorem dX11_row_61 : decode cX11_row 61 = .ok (.iastore, 1) := by decide +kernel
theorem dX11_row_62 : decode cX11_row 62 = .ok (.iconst 0, 1) := by decide +kernel
theorem dX11_row_63 : decode cX11_row 63 = .ok (.istore 4, 2) := by decide +kernel
theorem dX11_row_65 : decode cX11_row 65 = .ok (.iload 4, 2) := by decide +kernel
theorem dX11_row_67 : decode cX11_row 67 = .ok (.bipush 40, 2) := by decide +kernel
theorem dX11_row_69 : decode cX11_row 69 = .ok (.if_icmp .ge 22, 3) := by decide +kernel
theorem dX11_row_72 : decode cX11_row 72 = .ok (.aload_n 0, 1) := by decide +kernel
theorem dX11_row_73 : decode cX11_row 73 = .ok (.getfield 16, 3) := by decide +kernel
theorem dX11_row_76 : decode cX11_row 76 = .ok (.bipush 40, 2) := by decide +kernel
theorem dX11_row_78 : decode cX11_row 78 = .ok (.iload_n 1, 1) := by decide +kernel
theorem dX11_row_79 : decode cX11_row 79 = .ok (.imul, 1) := by decide +kernel
theorem dX11_row_80 : decode cX11_row 80 = .ok (.iload 4, 2) := by decide +kernel
theorem dX11_row_82 : decode cX11_row 82 = .ok (.iadd, 1) := by decide +kernel
theorem dX11_row_83 : decode cX11_row 83 = .ok (.iconst 0, 1) := by decide +kernel
theorem dX11_row_84 : decode cX11_row 84 = .ok (.iastore, 1) := by decide +kernel
theorem dX11_row_85 : decode cX11_row 85 = .ok (.iinc 4 1, 3) := by decide +kernel
theorem dX11_row_88 : decode cX11_row 88 = .ok (.goto (-23), 3) := by decide +kernel
theorem dX11_row_91 : decode cX11_row 91 = .ok (.iload_n 3, 1) := by decide +kernel
theorem dX11_row_92 : decode cX11_row 92 = .ok (.ireturn, 1) := by decide +kernel
theorem dX11_set_0 : decode cX11_set 0 = .ok (.aload_n 0, 1) := by decide +kernel
theorem dX11_set_1 : decode cX11_set 1 = .ok (.iconst 0, 1) := by decide +kernel
theorem dX11_set_2 : decode cX11_set 2 = .ok (.putfield 50, 3) := by decide +kernel
theorem dX11_set_5 : decode cX11_set 5 = .ok (.iload_n 1, 1) := by decide +kernel
theorem dX11_set_6 : decode cX11_set 6 = .ok (.invokestatic 64, 3) := by decide +kernel
theorem dX11_set_9 : decode cX11_set 9 = .ok (.ifCond .ne 6, 3) := by decide +kernel
theorem dX11_set_12 : decode cX11_set 12 = .ok (.ldc 70, 2) := by decide +kernel
theorem dX11_set_14 : decode cX11_set 14 = .ok (.ireturn, 1) := by decide +kernel
theorem dX11_set_15 : decode cX11_set 15 = .ok (.aload_n 0, 1) := by decide +kernel
theorem dX11_set_16 : decode cX11_set 16 = .ok (.iconst 0, 1) := by decide +kernel
theorem dX11_set_17 : decode cX11_set 17 = .ok (.putfield 54, 3) := by decide +kernel
theorem dX11_set_20 : decode cX11_set 20 = .ok (.aload_n 0, 1) := by decide +kernel
theorem dX11_set_21 : decode cX11_set 21 = .ok (.getfield 7, 3) := by decide +kernel
theorem dX11_set_24 : decode cX11_set 24 = .ok (.iload_n 1, 1) := by decide +kernel
theorem dX11_set_25 : decode cX11_set 25 = .ok (.iaload, 1) := by decide +kernel
theorem dX11_set_26 : decode cX11_set 26 = .ok (.ifCond .ge 9, 3) := by decide +kernel
theorem dX11_set_29 : decode cX11_set 29 = .ok (.aload_n 0, 1) := by decide +kernel
theorem dX11_set_30 : decode cX11_set 30 = .ok (.iconst 1, 1) := by decide +kernel
theorem dX11_set_31 : decode cX11_set 31 = .ok (.invokevirtual 71, 3) := by decide +kernel
theorem dX11_set_34 : decode cX11_set 34 = .ok (.ireturn, 1) := by decide +kernel
theorem dX11_set_35 : decode cX11_set 35 = .ok (.iload_n 2, 1) := by decide +kernel
theorem dX11_set_36 : decode cX11_set 36 = .ok (.i2l, 1) := by decide +kernel
theorem dX11_set_37 : decode cX11_set 37 = .ok (.lconst 0, 1) := by decide +kernel
theorem dX11_set_38 : decode cX11_set 38 = .ok (.aload_n 0, 1) := by decide +kernel
theorem dX11_set_39 : decode cX11_set 39 = .ok (.getfield 13, 3) := by decide +kernel
theorem dX11_set_42 : decode cX11_set 42 = .ok (.iload_n 1, 1) := by decide +kernel
theorem dX11_set_43 : decode cX11_set 43 = .ok (.iaload, 1) := by decide +kernel
theorem dX11_set_44 : decode cX11_set 44 = .ok (.iconst 1, 1) := by decide +kernel
theorem dX11_set_45 : decode cX11_set 45 = .ok (.isub, 1) := by decide +kernel
theorem dX11_set_46 : decode cX11_set 46 = .ok (.i2l, 1) := by decide +kernel
theorem dX11_set_47 : decode cX11_set 47 = .ok (.invokestatic 60, 3) := by decide +kernel
theorem dX11_set_50 : decode cX11_set 50 = .ok (.ifCond .ne 9, 3) := by decide +kernel
theorem dX11_set_53 : decode cX11_set 53 = .ok (.aload_n 0, 1) := by decide +kernel
theorem dX11_set_54 : decode cX11_set 54 = .ok (.iconst 2, 1) := by decide +kernel
theorem dX11_set_55 : decode cX11_set 55 = .ok (.invokevirtual 71, 3) := by decide +kernel
theorem dX11_set_58 : decode cX11_set 58 = .ok (.ireturn, 1) := by decide +kernel
theorem dX11_set_59 : decode cX11_set 59 = .ok (.aload_n 0, 1) := by decide +kernel
theorem dX11_set_60 : decode cX11_set 60 = .ok (.getfield 16, 3) := by decide +kernel
theorem dX11_set_63 : decode cX11_set 63 = .ok (.bipush 40, 2) := by decide +kernel
theorem dX11_set_65 : decode cX11_set 65 = .ok (.iload_n 1, 1) := by decide +kernel
theorem dX11_set_66 : decode cX11_set 66 = .ok (.imul, 1) := by decide +kernel
theorem dX11_set_67 : decode cX11_set 67 = .ok (.iload_n 2, 1) := by decide +kernel
theorem dX11_set_68 : decode cX11_set 68 = .ok (.iadd, 1) := by decide +kernel
theorem dX11_set_69 : decode cX11_set 69 = .ok (.aload_n 0, 1) := by decide +kernel
theorem dX11_set_70 : decode cX11_set 70 = .ok (.getfield 7, 3) := by decide +kernel
theorem dX11_set_73 : decode cX11_set 73 = .ok (.iload_n 1, 1) := by decide +kernel
theorem dX11_set_74 : decode cX11_set 74 = .ok (.iaload, 1) := by decide +kernel
theorem dX11_set_75 : decode cX11_set 75 = .ok (.ifCond .ne 8, 3) := by decide +kernel
theorem dX11_set_78 : decode cX11_set 78 = .ok (.iload_n 3, 1) := by decide +kernel
theorem dX11_set_79 : decode cX11_set 79 = .ok (.i2b, 1) := by decide +kernel
theorem dX11_set_80 : decode cX11_set 80 = .ok (.goto 19, 3) := by decide +kernel
theorem dX11_set_83 : decode cX11_set 83 = .ok (.aload_n 0, 1) := by decide +kernel
theorem dX11_set_84 : decode cX11_set 84 = .ok (.getfield 7, 3) := by decide +kernel
theorem dX11_set_87 : decode cX11_set 87 = .ok (.iload_n 1, 1) := by decide +kernel
theorem dX11_set_88 : decode cX11_set 88 = .ok (.iaload, 1) := by decide +kernel
theorem dX11_set_89 : decode cX11_set 89 = .ok (.iconst 1, 1) := by decide +kernel
theorem dX11_set_90 : decode cX11_set 90 = .ok (.if_icmp .ne 8, 3) := by decide +kernel
theorem dX11_set_93 : decode cX11_set 93 = .ok (.iload_n 3, 1) := by decide +kernel
theorem dX11_set_94 : decode cX11_set 94 = .ok (.i2s, 1) := by decide +kernel
theorem dX11_set_95 : decode cX11_set 95 = .ok (.goto 4, 3) := by decide +kernel
theorem dX11_set_98 : decode cX11_set 98 = .ok (.iload_n 3, 1) := by decide +kernel
theorem dX11_set_99 : decode cX11_set 99 = .ok (.iastore, 1) := by decide +kernel
theorem dX11_set_100 : decode cX11_set 100 = .ok (.aload_n 0, 1) := by decide +kernel
theorem dX11_set_101 : decode cX11_set 101 = .ok (.getfield 16, 3) := by decide +kernel
theorem dX11_set_104 : decode cX11_set 104 = .ok (.bipush 40, 2) := by decide +kernel
theorem dX11_set_106 : decode cX11_set 106 = .ok (.iload_n 1, 1) := by decide +kernel
theorem dX11_set_107 : decode cX11_set 107 = .ok (.imul, 1) := by decide +kernel
theorem dX11_set_108 : decode cX11_set 108 = .ok (.iload_n 2, 1) := by decide +kernel
theorem dX11_set_109 : decode cX11_set 109 = .ok (.iadd, 1) := by decide +kernel
theorem dX11_set_110 : decode cX11_set 110 = .ok (.iaload, 1) := by decide +kernel
theorem dX11_set_111 : decode cX11_set 111 = .ok (.ireturn, 1) := by decide +kernel
theorem dX11_copy_0 : decode cX11_copy 0 = .ok (.aload_n 0, 1) := by decide +kernel
theorem dX11_copy_1 : decode cX11_copy 1 = .ok (.iconst 0, 1) := by decide +kernel
theorem dX11_copy_2 : decode cX11_copy 2 = .ok (.putfield 50, 3) := by decide +kernel
theorem dX11_copy_5 : decode cX11_copy 5 = .ok (.iload_n 1, 1) := by decide +kernel
theorem dX11_copy_6 : decode cX11_copy 6 = .ok (.invokestatic 64, 3) := by decide +kernel
theorem dX11_copy_9 : decode cX11_copy 9 = .ok (.ifCond .eq 10, 3) := by decide +kernel
theorem dX11_copy_12 : decode cX11_copy 12 = .ok (.iload_n 3, 1) := by decide +kernel
theorem dX11_copy_13 : decode cX11_copy 13 = .ok (.invokestatic 64, 3) := by decide +kernel
theorem dX11_copy_16 : decode cX11_copy 16 = .ok (.ifCond .ne 6, 3) := by decide +kernel
theorem dX11_copy_19 : decode cX11_copy 19 = .ok (.ldc 70, 2) := by decide +kernel
theorem dX11_copy_21 : decode cX11_copy 21 = .ok (.ireturn, 1) := by decide +kernel
theorem dX11_copy_22 : decode cX11_copy 22 = .ok (.aload_n 0, 1) := by decide +kernel
theorem dX11_copy_23 : decode cX11_copy 23 = .ok (.iconst 0, 1) := by decide +kernel
theorem dX11_copy_24 : decode cX11_copy 24 = .ok (.putfield 54, 3) := by decide +kernel
theorem dX11_copy_27 : decode cX11_copy 27 = .ok (.aload_n 0, 1) := by decide +kernel
theorem dX11_copy_28 : decode cX11_copy 28 = .ok (.getfield 7, 3) := by decide +kernel
theorem dX11_copy_31 : decode cX11_copy 31 = .ok (.iload_n 1, 1) := by decide +kernel
theorem dX11_copy_32 : decode cX11_copy 32 = .ok (.iaload, 1) := by decide +kernel
theorem dX11_copy_33 : decode cX11_copy 33 = .ok (.ifCond .lt 12, 3) := by decide +kernel
theorem dX11_copy_36 : decode cX11_copy 36 = .ok (.aload_n 0, 1) := by decide +kernel
theorem dX11_copy_37 : decode cX11_copy 37 = .ok (.getfield 7, 3) := by decide +kernel
theorem dX11_copy_40 : decode cX11_copy 40 = .ok (.iload_n 3, 1) := by decide +kernel
theorem dX11_copy_41 : decode cX11_copy 41 = .ok (.iaload, 1) := by decide +kernel
theorem dX11_copy_42 : decode cX11_copy 42 = .ok (.ifCond .ge 9, 3) := by decide +kernel
theorem dX11_copy_45 : decode cX11_copy 45 = .ok (.aload_n 0, 1) := by decide +kernel
theorem dX11_copy_46 : decode cX11_copy 46 = .ok (.iconst 1, 1) := by decide +kernel
theorem dX11_copy_47 : decode cX11_copy 47 = .ok (.invokevirtual 71, 3) := by decide +kernel
theorem dX11_copy_50 : decode cX11_copy 50 = .ok (.ireturn, 1) := by decide +kernel
theorem dX11_copy_51 : decode cX11_copy 51 = .ok (.aload_n 0, 1) := by decide +kernel
theorem dX11_copy_52 : decode cX11_copy 52 = .ok (.getfield 7, 3) := by decide +kernel
theorem dX11_copy_55 : decode cX11_copy 55 = .ok (.iload_n 1, 1) := by decide +kernel
theorem dX11_copy_56 : decode cX11_copy 56 = .ok (.iaload, 1) := by decide +kernel
theorem dX11_copy_57 : decode cX11_copy 57 = .ok (.aload_n 0, 1) := by decide +kernel
theorem dX11_copy_58 : decode cX11_copy 58 = .ok (.getfield 7, 3) := by decide +kernel
theorem dX11_copy_61 : decode cX11_copy 61 = .ok (.iload_n 3, 1) := by decide +kernel
theorem dX11_copy_62 : decode cX11_copy 62 = .ok (.iaload, 1) := by decide +kernel
theorem dX11_copy_63 : decode cX11_copy 63 = .ok (.if_icmp .eq 9, 3) := by decide +kernel
theorem dX11_copy_66 : decode cX11_copy 66 = .ok (.aload_n 0, 1) := by decide +kernel
theorem dX11_copy_67 : decode cX11_copy 67 = .ok (.iconst 5, 1) := by decide +kernel
theorem dX11_copy_68 : decode cX11_copy 68 = .ok (.invokevirtual 71, 3) := by decide +kernel
theorem dX11_copy_71 : decode cX11_copy 71 = .ok (.ireturn, 1) := by decide +kernel
theorem dX11_copy_72 : decode cX11_copy 72 = .ok (.iload_n 2, 1) := by decide +kernel
theorem dX11_copy_73 : decode cX11_copy 73 = .ok (.ifCond .lt 48, 3) := by decide +kernel
theorem dX11_copy_76 : decode cX11_copy 76 = .ok (.iload 4, 2) := by decide +kernel
theorem dX11_copy_78 : decode cX11_copy 78 = .ok (.ifCond .lt 43, 3) := by decide +kernel
theorem dX11_copy_81 : decode cX11_copy 81 = .ok (.iload 5, 2) := by decide +kernel
theorem dX11_copy_83 : decode cX11_copy 83 = .ok (.ifCond .lt 38, 3) := by decide +kernel
theorem dX11_copy_86 : decode cX11_copy 86 = .ok (.iload_n 2, 1) := by decide +kernel
theorem dX11_copy_87 : decode cX11_copy 87 = .ok (.i2l, 1) := by decide +kernel
theorem dX11_copy_88 : decode cX11_copy 88 = .ok (.iload 5, 2) := by decide +kernel
theorem dX11_copy_90 : decode cX11_copy 90 = .ok (.i2l, 1) := by decide +kernel
theorem dX11_copy_91 : decode cX11_copy 91 = .ok (.ladd, 1) := by decide +kernel
theorem dX11_copy_92 : decode cX11_copy 92 = .ok (.aload_n 0, 1) := by decide +kernel
theorem dX11_copy_93 : decode cX11_copy 93 = .ok (.getfield 13, 3) := by decide +kernel
theorem dX11_copy_96 : decode cX11_copy 96 = .ok (.iload_n 1, 1) := by decide +kernel
theorem dX11_copy_97 : decode cX11_copy 97 = .ok (.iaload, 1) := by decide +kernel
theorem dX11_copy_98 : decode cX11_copy 98 = .ok (.i2l, 1) := by decide +kernel
theorem dX11_copy_99 : decode cX11_copy 99 = .ok (.lcmp, 1) := by decide +kernel
theorem dX11_copy_100 : decode cX11_copy 100 = .ok (.ifCond .gt 21, 3) := by decide +kernel
theorem dX11_copy_103 : decode cX11_copy 103 = .ok (.iload 4, 2) := by decide +kernel
theorem dX11_copy_105 : decode cX11_copy 105 = .ok (.i2l, 1) := by decide +kernel
theorem dX11_copy_106 : decode cX11_copy 106 = .ok (.iload 5, 2) := by decide +kernel
theorem dX11_copy_108 : decode cX11_copy 108 = .ok (.i2l, 1) := by decide +kernel
theorem dX11_copy_109 : decode cX11_copy 109 = .ok (.ladd, 1) := by decide +kernel
theorem dX11_copy_110 : decode cX11_copy 110 = .ok (.aload_n 0, 1) := by decide +kernel
theorem dX11_copy_111 : decode cX11_copy 111 = .ok (.getfield 13, 3) := by decide +kernel
theorem dX11_copy_114 : decode cX11_copy 114 = .ok (.iload_n 3, 1) := by decide +kernel
theorem dX11_copy_115 : decode cX11_copy 115 = .ok (.iaload, 1) := by decide +kernel
theorem dX11_copy_116 : decode cX11_copy 116 = .ok (.i2l, 1) := by decide +kernel
theorem dX11_copy_117 : decode cX11_copy 117 = .ok (.lcmp, 1) := by decide +kernel
theorem dX11_copy_118 : decode cX11_copy 118 = .ok (.ifCond .le 9, 3) := by decide +kernel
theorem dX11_copy_121 : decode cX11_copy 121 = .ok (.aload_n 0, 1) := by decide +kernel
theorem dX11_copy_122 : decode cX11_copy 122 = .ok (.iconst 2, 1) := by decide +kernel
theorem dX11_copy_123 : decode cX11_copy 123 = .ok (.invokevirtual 71, 3) := by decide +kernel
theorem dX11_copy_126 : decode cX11_copy 126 = .ok (.ireturn, 1) := by decide +kernel
theorem dX11_copy_127 : decode cX11_copy 127 = .ok (.iload_n 2, 1) := by decide +kernel
theorem dX11_copy_128 : decode cX11_copy 128 = .ok (.iload 4, 2) := by decide +kernel
theorem dX11_copy_130 : decode cX11_copy 130 = .ok (.if_icmp .lt 7, 3) := by decide +kernel
theorem dX11_copy_133 : decode cX11_copy 133 = .ok (.iconst 1, 1) := by decide +kernel
theorem dX11_copy_134 : decode cX11_copy 134 = .ok (.goto 4, 3) := by decide +kernel
theorem dX11_copy_137 : decode cX11_copy 137 = .ok (.iconst 0, 1) := by decide +kernel
theorem dX11_copy_138 : decode cX11_copy 138 = .ok (.istore 6, 2) := by decide +kernel
theorem dX11_copy_140 : decode cX11_copy 140 = .ok (.iconst 0, 1) := by decide +kernel
theorem dX11_copy_141 : decode cX11_copy 141 = .ok (.istore 7, 2) := by decide +kernel
theorem dX11_copy_143 : decode cX11_copy 143 = .ok (.iload 7, 2) := by decide +kernel
theorem dX11_copy_145 : decode cX11_copy 145 = .ok (.iload 5, 2) := by decide +kernel
theorem dX11_copy_147 : decode cX11_copy 147 = .ok (.if_icmp .ge 57, 3) := by decide +kernel
theorem dX11_copy_150 : decode cX11_copy 150 = .ok (.iload 6, 2) := by decide +kernel
theorem dX11_copy_152 : decode cX11_copy 152 = .ok (.ifCond .eq 8, 3) := by decide +kernel
theorem dX11_copy_155 : decode cX11_copy 155 = .ok (.iload 7, 2) := by decide +kernel
theorem dX11_copy_157 : decode cX11_copy 157 = .ok (.goto 10, 3) := by decide +kernel
theorem dX11_copy_160 : decode cX11_copy 160 = .ok (.iload 5, 2) := by decide +kernel
theorem dX11_copy_162 : decode cX11_copy 162 = .ok (.iconst 1, 1) := by decide +kernel
theorem dX11_copy_163 : decode cX11_copy 163 = .ok (.isub, 1) := by decide +kernel
theorem dX11_copy_164 : decode cX11_copy 164 = .ok (.iload 7, 2) := by decide +kernel
theorem dX11_copy_166 : decode cX11_copy 166 = .ok (.isub, 1) := by decide +kernel
theorem dX11_copy_167 : decode cX11_copy 167 = .ok (.istore 8, 2) := by decide +kernel
theorem dX11_copy_169 : decode cX11_copy 169 = .ok (.aload_n 0, 1) := by decide +kernel
theorem dX11_copy_170 : decode cX11_copy 170 = .ok (.getfield 16, 3) := by decide +kernel
theorem dX11_copy_173 : decode cX11_copy 173 = .ok (.bipush 40, 2) := by decide +kernel
theorem dX11_copy_175 : decode cX11_copy 175 = .ok (.iload_n 3, 1) := by decide +kernel
theorem dX11_copy_176 : decode cX11_copy 176 = .ok (.imul, 1) := by decide +kernel
theorem dX11_copy_177 : decode cX11_copy 177 = .ok (.iload 4, 2) := by decide +kernel
theorem dX11_copy_179 : decode cX11_copy 179 = .ok (.iadd, 1) := by decide +kernel
theorem dX11_copy_180 : decode cX11_copy 180 = .ok (.iload 8, 2) := by decide +kernel
theorem dX11_copy_182 : decode cX11_copy 182 = .ok (.iadd, 1) := by decide +kernel
theorem dX11_copy_183 : decode cX11_copy 183 = .ok (.aload_n 0, 1) := by decide +kernel
theorem dX11_copy_184 : decode cX11_copy 184 = .ok (.getfield 16, 3) := by decide +kernel
theorem dX11_copy_187 : decode cX11_copy 187 = .ok (.bipush 40, 2) := by decide +kernel
theorem dX11_copy_189 : decode cX11_copy 189 = .ok (.iload_n 1, 1) := by decide +kernel
theorem dX11_copy_190 : decode cX11_copy 190 = .ok (.imul, 1) := by decide +kernel
theorem dX11_copy_191 : decode cX11_copy 191 = .ok (.iload_n 2, 1) := by decide +kernel
theorem dX11_copy_192 : decode cX11_copy 192 = .ok (.iadd, 1) := by decide +kernel
theorem dX11_copy_193 : decode cX11_copy 193 = .ok (.iload 8, 2) := by decide +kernel
theorem dX11_copy_195 : decode cX11_copy 195 = .ok (.iadd, 1) := by decide +kernel
theorem dX11_copy_196 : decode cX11_copy 196 = .ok (.iaload, 1) := by decide +kernel
theorem dX11_copy_197 : decode cX11_copy 197 = .ok (.iastore, 1) := by decide +kernel
theorem dX11_copy_198 : decode cX11_copy 198 = .ok (.iinc 7 1, 3) := by decide +kernel
theorem dX11_copy_201 : decode cX11_copy 201 = .ok (.goto (-58), 3) := by decide +kernel
theorem dX11_copy_204 : decode cX11_copy 204 = .ok (.iload 5, 2) := by decide +kernel
theorem dX11_copy_206 : decode cX11_copy 206 = .ok (.ireturn, 1) := by decide +kernel
theorem dX11_drop_0 : decode cX11_drop 0 = .ok (.aload_n 0, 1) := by decide +kernel
theorem dX11_drop_1 : decode cX11_drop 1 = .ok (.iconst 0, 1) := by decide +kernel
theorem dX11_drop_2 : decode cX11_drop 2 = .ok (.putfield 50, 3) := by decide +kernel
theorem dX11_drop_5 : decode cX11_drop 5 = .ok (.iload_n 1, 1) := by decide +kernel
theorem dX11_drop_6 : decode cX11_drop 6 = .ok (.invokestatic 64, 3) := by decide +kernel
theorem dX11_drop_9 : decode cX11_drop 9 = .ok (.ifCond .ne 6, 3) := by decide +kernel
theorem dX11_drop_12 : decode cX11_drop 12 = .ok (.ldc 70, 2) := by decide +kernel
theorem dX11_drop_14 : decode cX11_drop 14 = .ok (.ireturn, 1) := by decide +kernel
theorem dX11_drop_15 : decode cX11_drop 15 = .ok (.aload_n 0, 1) := by decide +kernel
theorem dX11_drop_16 : decode cX11_drop 16 = .ok (.iconst 0, 1) := by decide +kernel
theorem dX11_drop_17 : decode cX11_drop 17 = .ok (.putfield 54, 3) := by decide +kernel
theorem dX11_drop_20 : decode cX11_drop 20 = .ok (.aload_n 0, 1) := by decide +kernel
theorem dX11_drop_21 : decode cX11_drop 21 = .ok (.getfield 7, 3) := by decide +kernel
theorem dX11_drop_24 : decode cX11_drop 24 = .ok (.iload_n 1, 1) := by decide +kernel
theorem dX11_drop_25 : decode cX11_drop 25 = .ok (.iaload, 1) := by decide +kernel
theorem dX11_drop_26 : decode cX11_drop 26 = .ok (.ifCond .ge 9, 3) := by decide +kernel
theorem dX11_drop_29 : decode cX11_drop 29 = .ok (.aload_n 0, 1) := by decide +kernel
theorem dX11_drop_30 : decode cX11_drop 30 = .ok (.iconst 1, 1) := by decide +kernel
theorem dX11_drop_31 : decode cX11_drop 31 = .ok (.invokevirtual 71, 3) := by decide +kernel
theorem dX11_drop_34 : decode cX11_drop 34 = .ok (.ireturn, 1) := by decide +kernel
theorem dX11_drop_35 : decode cX11_drop 35 = .ok (.aload_n 0, 1) := by decide +kernel
theorem dX11_drop_36 : decode cX11_drop 36 = .ok (.getfield 7, 3) := by decide +kernel
theorem dX11_drop_39 : decode cX11_drop 39 = .ok (.iload_n 1, 1) := by decide +kernel
theorem dX11_drop_40 : decode cX11_drop 40 = .ok (.iconst (-1), 1) := by decide +kernel
theorem dX11_drop_41 : decode cX11_drop 41 = .ok (.iastore, 1) := by decide +kernel
theorem dX11_drop_42 : decode cX11_drop 42 = .ok (.aload_n 0, 1) := by decide +kernel
theorem dX11_drop_43 : decode cX11_drop 43 = .ok (.getfield 13, 3) := by decide +kernel
theorem dX11_drop_46 : decode cX11_drop 46 = .ok (.iload_n 1, 1) := by decide +kernel
theorem dX11_drop_47 : decode cX11_drop 47 = .ok (.iaload, 1) := by decide +kernel
theorem dX11_drop_48 : decode cX11_drop 48 = .ok (.ireturn, 1) := by decide +kernel
theorem dX11_feed_0 : decode cX11_feed 0 = .ok (.aload_n 0, 1) := by decide +kernel
theorem dX11_feed_1 : decode cX11_feed 1 = .ok (.iconst 0, 1) := by decide +kernel
theorem dX11_feed_2 : decode cX11_feed 2 = .ok (.putfield 50, 3) := by decide +kernel
theorem dX11_feed_5 : decode cX11_feed 5 = .ok (.iload_n 3, 1) := by decide +kernel
theorem dX11_feed_6 : decode cX11_feed 6 = .ok (.i2l, 1) := by decide +kernel
theorem dX11_feed_7 : decode cX11_feed 7 = .ok (.lconst 1, 1) := by decide +kernel
theorem dX11_feed_8 : decode cX11_feed 8 = .ok (.ldc2_w 75, 3) := by decide +kernel
theorem dX11_feed_11 : decode cX11_feed 11 = .ok (.invokestatic 60, 3) := by decide +kernel
theorem dX11_feed_14 : decode cX11_feed 14 = .ok (.ifCond .ne 6, 3) := by decide +kernel
theorem dX11_feed_17 : decode cX11_feed 17 = .ok (.ldc 70, 2) := by decide +kernel
theorem dX11_feed_19 : decode cX11_feed 19 = .ok (.ireturn, 1) := by decide +kernel
theorem dX11_feed_20 : decode cX11_feed 20 = .ok (.aload_n 0, 1) := by decide +kernel
theorem dX11_feed_21 : decode cX11_feed 21 = .ok (.getfield 77, 3) := by decide +kernel
theorem dX11_feed_24 : decode cX11_feed 24 = .ok (.iload_n 3, 1) := by decide +kernel
theorem dX11_feed_25 : decode cX11_feed 25 = .ok (.iadd, 1) := by decide +kernel
theorem dX11_feed_26 : decode cX11_feed 26 = .ok (.sipush 400, 3) := by decide +kernel
theorem dX11_feed_29 : decode cX11_feed 29 = .ok (.if_icmp .le 6, 3) := by decide +kernel
theorem dX11_feed_32 : decode cX11_feed 32 = .ok (.ldc 80, 2) := by decide +kernel
theorem dX11_feed_34 : decode cX11_feed 34 = .ok (.ireturn, 1) := by decide +kernel
theorem dX11_feed_35 : decode cX11_feed 35 = .ok (.iload_n 3, 1) := by decide +kernel
theorem dX11_feed_36 : decode cX11_feed 36 = .ok (.iconst 1, 1) := by decide +kernel
theorem dX11_feed_37 : decode cX11_feed 37 = .ok (.isub, 1) := by decide +kernel
theorem dX11_feed_38 : decode cX11_feed 38 = .ok (.istore 4, 2) := by decide +kernel
theorem dX11_feed_40 : decode cX11_feed 40 = .ok (.iload 4, 2) := by decide +kernel
theorem dX11_feed_42 : decode cX11_feed 42 = .ok (.ifCond .lt 40, 3) := by decide +kernel
theorem dX11_feed_45 : decode cX11_feed 45 = .ok (.aload_n 0, 1) := by decide +kernel
theorem dX11_feed_46 : decode cX11_feed 46 = .ok (.getfield 28, 3) := by decide +kernel
theorem dX11_feed_49 : decode cX11_feed 49 = .ok (.aload_n 0, 1) := by decide +kernel
theorem dX11_feed_50 : decode cX11_feed 50 = .ok (.getfield 77, 3) := by decide +kernel
theorem dX11_feed_53 : decode cX11_feed 53 = .ok (.lload_n 1, 1) := by decide +kernel
theorem dX11_feed_54 : decode cX11_feed 54 = .ok (.bipush 8, 2) := by decide +kernel
theorem dX11_feed_56 : decode cX11_feed 56 = .ok (.iload 4, 2) := by decide +kernel
theorem dX11_feed_58 : decode cX11_feed 58 = .ok (.imul, 1) := by decide +kernel
theorem dX11_feed_59 : decode cX11_feed 59 = .ok (.lshr, 1) := by decide +kernel
theorem dX11_feed_60 : decode cX11_feed 60 = .ok (.ldc2_w 81, 3) := by decide +kernel
theorem dX11_feed_63 : decode cX11_feed 63 = .ok (.land, 1) := by decide +kernel
theorem dX11_feed_64 : decode cX11_feed 64 = .ok (.l2i, 1) := by decide +kernel
theorem dX11_feed_65 : decode cX11_feed 65 = .ok (.iastore, 1) := by decide +kernel
theorem dX11_feed_66 : decode cX11_feed 66 = .ok (.aload_n 0, 1) := by decide +kernel
theorem dX11_feed_67 : decode cX11_feed 67 = .ok (.dup, 1) := by decide +kernel
theorem dX11_feed_68 : decode cX11_feed 68 = .ok (.getfield 77, 3) := by decide +kernel
theorem dX11_feed_71 : decode cX11_feed 71 = .ok (.iconst 1, 1) := by decide +kernel
theorem dX11_feed_72 : decode cX11_feed 72 = .ok (.iadd, 1) := by decide +kernel
theorem dX11_feed_73 : decode cX11_feed 73 = .ok (.putfield 77, 3) := by decide +kernel
theorem dX11_feed_76 : decode cX11_feed 76 = .ok (.iinc 4 (-1), 3) := by decide +kernel
theorem dX11_feed_79 : decode cX11_feed 79 = .ok (.goto (-39), 3) := by decide +kernel
theorem dX11_feed_82 : decode cX11_feed 82 = .ok (.aload_n 0, 1) := by decide +kernel
theorem dX11_feed_83 : decode cX11_feed 83 = .ok (.getfield 77, 3) := by decide +kernel
theorem dX11_feed_86 : decode cX11_feed 86 = .ok (.ireturn, 1) := by decide +kernel
theorem dX11_byteAt_0 : decode cX11_byteAt 0 = .ok (.iload_n 1, 1) := by decide +kernel
theorem dX11_byteAt_1 : decode cX11_byteAt 1 = .ok (.aload_n 0, 1) := by decide +kernel
theorem dX11_byteAt_2 : decode cX11_byteAt 2 = .ok (.getfield 83, 3) := by decide +kernel
theorem dX11_byteAt_5 : decode cX11_byteAt 5 = .ok (.if_icmp .ge 12, 3) := by decide +kernel
theorem dX11_byteAt_8 : decode cX11_byteAt 8 = .ok (.aload_n 0, 1) := by decide +kernel
theorem dX11_byteAt_9 : decode cX11_byteAt 9 = .ok (.getfield 28, 3) := by decide +kernel
theorem dX11_byteAt_12 : decode cX11_byteAt 12 = .ok (.iload_n 1, 1) := by decide +kernel
theorem dX11_byteAt_13 : decode cX11_byteAt 13 = .ok (.iaload, 1) := by decide +kernel
theorem dX11_byteAt_14 : decode cX11_byteAt 14 = .ok (.goto 5, 3) := by decide +kernel
theorem dX11_byteAt_17 : decode cX11_byteAt 17 = .ok (.ldc 86, 2) := by decide +kernel
theorem dX11_byteAt_19 : decode cX11_byteAt 19 = .ok (.ireturn, 1) := by decide +kernel
theorem dX11_isLetter_0 : decode cX11_isLetter 0 = .ok (.iload_n 0, 1) := by decide +kernel
theorem dX11_isLetter_1 : decode cX11_isLetter 1 = .ok (.bipush 97, 2) := by decide +kernel
theorem dX11_isLetter_3 : decode cX11_isLetter 3 = .ok (.if_icmp .lt 13, 3) := by decide +kernel
theorem dX11_isLetter_6 : decode cX11_isLetter 6 = .ok (.iload_n 0, 1) := by decide +kernel
theorem dX11_isLetter_7 : decode cX11_isLetter 7 = .ok (.bipush 122, 2) := by decide +kernel
theorem dX11_isLetter_9 : decode cX11_isLetter 9 = .ok (.if_icmp .gt 7, 3) := by decide +kernel
theorem dX11_isLetter_12 : decode cX11_isLetter 12 = .ok (.iconst 1, 1) := by decide +kernel
theorem dX11_isLetter_13 : decode cX11_isLetter 13 = .ok (.goto 4, 3) := by decide +kernel
theorem dX11_isLetter_16 : decode cX11_isLetter 16 = .ok (.iconst 0, 1) := by decide +kernel
theorem dX11_isLetter_17 : decode cX11_isLetter 17 = .ok (.ireturn, 1) := by decide +kernel
theorem dX11_isFigure_0 : decode cX11_isFigure 0 = .ok (.iload_n 0, 1) := by decide +kernel
theorem dX11_isFigure_1 : decode cX11_isFigure 1 = .ok (.bipush 48, 2) := by decide +kernel
theorem dX11_isFigure_3 : decode cX11_isFigure 3 = .ok (.if_icmp .lt 13, 3) := by decide +kernel
theorem dX11_isFigure_6 : decode cX11_isFigure 6 = .ok (.iload_n 0, 1) := by decide +kernel
theorem dX11_isFigure_7 : decode cX11_isFigure 7 = .ok (.bipush 57, 2) := by decide +kernel
theorem dX11_isFigure_9 : decode cX11_isFigure 9 = .ok (.if_icmp .gt 7, 3) := by decide +kernel
theorem dX11_isFigure_12 : decode cX11_isFigure 12 = .ok (.iconst 1, 1) := by decide +kernel
theorem dX11_isFigure_13 : decode cX11_isFigure 13 = .ok (.goto 4, 3) := by decide +kernel
theorem dX11_isFigure_16 : decode cX11_isFigure 16 = .ok (.iconst 0, 1) := by decide +kernel
theorem dX11_isFigure_17 : decode cX11_isFigure 17 = .ok (.ireturn, 1) := by decide +kernel
theorem dX11_next_0 : decode cX11_next 0 = .ok (.aload_n 0, 1) := by decide +kernel
theorem dX11_next_1 : decode cX11_next 1 = .ok (.aload_n 0, 1) := by decide +kernel
theorem dX11_next_2 : decode cX11_next 2 = .ok (.getfield 87, 3) := by decide +kernel
theorem dX11_next_5 : decode cX11_next 5 = .ok (.invokevirtual 90, 3) := by decide +kernel
theorem dX11_next_8 : decode cX11_next 8 = .ok (.bipush 32, 2) := by decide +kernel
theorem dX11_next_10 : decode cX11_next 10 = .ok (.if_icmp .eq 16, 3) := by decide +kernel
theorem dX11_next_13 : decode cX11_next 13 = .ok (.aload_n 0, 1) := by decide +kernel
theorem dX11_next_14 : decode cX11_next 14 = .ok (.aload_n 0, 1) := by decide +kernel
theorem dX11_next_15 : decode cX11_next 15 = .ok (.getfield 87, 3) := by decide +kernel
theorem dX11_next_18 : decode cX11_next 18 = .ok (.invokevirtual 90, 3) := by decide +kernel
theorem dX11_next_21 : decode cX11_next 21 = .ok (.bipush 10, 2) := by decide +kernel
theorem dX11_next_23 : decode cX11_next 23 = .ok (.if_icmp .ne 16, 3) := by decide +kernel
theorem dX11_next_26 : decode cX11_next 26 = .ok (.aload_n 0, 1) := by decide +kernel
theorem dX11_next_27 : decode cX11_next 27 = .ok (.dup, 1) := by decide +kernel
theorem dX11_next_28 : decode cX11_next 28 = .ok (.getfield 87, 3) := by decide +kernel
theorem dX11_next_31 : decode cX11_next 31 = .ok (.iconst 1, 1) := by decide +kernel
theorem dX11_next_32 : decode cX11_next 32 = .ok (.iadd, 1) := by decide +kernel
theorem dX11_next_33 : decode cX11_next 33 = .ok (.putfield 87, 3) := by decide +kernel
theorem dX11_next_36 : decode cX11_next 36 = .ok (.goto (-36), 3) := by decide +kernel
theorem dX11_next_39 : decode cX11_next 39 = .ok (.aload_n 0, 1) := by decide +kernel
theorem dX11_next_40 : decode cX11_next 40 = .ok (.aload_n 0, 1) := by decide +kernel
theorem dX11_next_41 : decode cX11_next 41 = .ok (.getfield 87, 3) := by decide +kernel
theorem dX11_next_44 : decode cX11_next 44 = .ok (.putfield 93, 3) := by decide +kernel
theorem dX11_next_47 : decode cX11_next 47 = .ok (.aload_n 0, 1) := by decide +kernel
theorem dX11_next_48 : decode cX11_next 48 = .ok (.aload_n 0, 1) := by decide +kernel
theorem dX11_next_49 : decode cX11_next 49 = .ok (.getfield 87, 3) := by decide +kernel
theorem dX11_next_52 : decode cX11_next 52 = .ok (.invokevirtual 90, 3) := by decide +kernel
theorem dX11_next_55 : decode cX11_next 55 = .ok (.istore_n 1, 1) := by decide +kernel
theorem dX11_next_56 : decode cX11_next 56 = .ok (.iload_n 1, 1) := by decide +kernel
theorem dX11_next_57 : decode cX11_next 57 = .ok (.ldc 86, 2) := by decide +kernel
theorem dX11_next_59 : decode cX11_next 59 = .ok (.if_icmp .ne 11, 3) := by decide +kernel
theorem dX11_next_62 : decode cX11_next 62 = .ok (.aload_n 0, 1) := by decide +kernel
theorem dX11_next_63 : decode cX11_next 63 = .ok (.iconst 1, 1) := by decide +kernel
theorem dX11_next_64 : decode cX11_next 64 = .ok (.putfield 96, 3) := by decide +kernel
theorem dX11_next_67 : decode cX11_next 67 = .ok (.goto 129, 3) := by decide +kernel
theorem dX11_next_70 : decode cX11_next 70 = .ok (.iload_n 1, 1) := by decide +kernel
theorem dX11_next_71 : decode cX11_next 71 = .ok (.invokestatic 99, 3) := by decide +kernel
theorem dX11_next_74 : decode cX11_next 74 = .ok (.ifCond .eq 38, 3) := by decide +kernel
theorem dX11_next_77 : decode cX11_next 77 = .ok (.aload_n 0, 1) := by decide +kernel
theorem dX11_next_78 : decode cX11_next 78 = .ok (.aload_n 0, 1) := by decide +kernel
theorem dX11_next_79 : decode cX11_next 79 = .ok (.getfield 87, 3) := by decide +kernel
theorem dX11_next_82 : decode cX11_next 82 = .ok (.invokevirtual 90, 3) := by decide +kernel
theorem dX11_next_85 : decode cX11_next 85 = .ok (.invokestatic 99, 3) := by decide +kernel
theorem dX11_next_88 : decode cX11_next 88 = .ok (.ifCond .eq 16, 3) := by decide +kernel
theorem dX11_next_91 : decode cX11_next 91 = .ok (.aload_n 0, 1) := by decide +kernel
theorem dX11_next_92 : decode cX11_next 92 = .ok (.dup, 1) := by decide +kernel
theorem dX11_next_93 : decode cX11_next 93 = .ok (.getfield 87, 3) := by decide +kernel
theorem dX11_next_96 : decode cX11_next 96 = .ok (.iconst 1, 1) := by decide +kernel
theorem dX11_next_97 : decode cX11_next 97 = .ok (.iadd, 1) := by decide +kernel
theorem dX11_next_98 : decode cX11_next 98 = .ok (.putfield 87, 3) := by decide +kernel
theorem dX11_next_101 : decode cX11_next 101 = .ok (.goto (-24), 3) := by decide +kernel
theorem dX11_next_104 : decode cX11_next 104 = .ok (.aload_n 0, 1) := by decide +kernel
theorem dX11_next_105 : decode cX11_next 105 = .ok (.iconst 2, 1) := by decide +kernel
theorem dX11_next_106 : decode cX11_next 106 = .ok (.putfield 96, 3) := by decide +kernel
theorem dX11_next_109 : decode cX11_next 109 = .ok (.goto 87, 3) := by decide +kernel
theorem dX11_next_112 : decode cX11_next 112 = .ok (.iload_n 1, 1) := by decide +kernel
theorem dX11_next_113 : decode cX11_next 113 = .ok (.invokestatic 102, 3) := by decide +kernel
theorem dX11_next_116 : decode cX11_next 116 = .ok (.ifCond .eq 55, 3) := by decide +kernel
theorem dX11_next_119 : decode cX11_next 119 = .ok (.aload_n 0, 1) := by decide +kernel
end
section
theorem dX11_next_120 : decode cX11_next 120 = .ok (.aload_n 0, 1) := by decide +kernel
theorem dX11_next_121 : decode cX11_next 121 = .ok (.getfield 87, 3) := by decide +kernel
theorem dX11_next_124 : decode cX11_next 124 = .ok (.invokevirtual 90, 3) := by decide +kernel
theorem dX11_next_127 : decode cX11_next 127 = .ok (.invokestatic 102, 3) := by decide +kernel
theorem dX11_next_130 : decode cX11_next 130 = .ok (.ifCond .eq 16, 3) := by decide +kernel
theorem dX11_next_133 : decode cX11_next 133 = .ok (.aload_n 0, 1) := by decide +kernel
theorem dX11_next_134 : decode cX11_next 134 = .ok (.dup, 1) := by decide +kernel
theorem dX11_next_135 : decode cX11_next 135 = .ok (.getfield 87, 3) := by decide +kernel
theorem dX11_next_138 : decode cX11_next 138 = .ok (.iconst 1, 1) := by decide +kernel
theorem dX11_next_139 : decode cX11_next 139 = .ok (.iadd, 1) := by decide +kernel
theorem dX11_next_140 : decode cX11_next 140 = .ok (.putfield 87, 3) := by decide +kernel
theorem dX11_next_143 : decode cX11_next 143 = .ok (.goto (-24), 3) := by decide +kernel
theorem dX11_next_146 : decode cX11_next 146 = .ok (.aload_n 0, 1) := by decide +kernel
theorem dX11_next_147 : decode cX11_next 147 = .ok (.aload_n 0, 1) := by decide +kernel
theorem dX11_next_148 : decode cX11_next 148 = .ok (.getfield 87, 3) := by decide +kernel
theorem dX11_next_151 : decode cX11_next 151 = .ok (.aload_n 0, 1) := by decide +kernel
theorem dX11_next_152 : decode cX11_next 152 = .ok (.getfield 93, 3) := by decide +kernel
theorem dX11_next_155 : decode cX11_next 155 = .ok (.isub, 1) := by decide +kernel
theorem dX11_next_156 : decode cX11_next 156 = .ok (.iconst 3, 1) := by decide +kernel
theorem dX11_next_157 : decode cX11_next 157 = .ok (.if_icmp .le 7, 3) := by decide +kernel
theorem dX11_next_160 : decode cX11_next 160 = .ok (.iconst 0, 1) := by decide +kernel
theorem dX11_next_161 : decode cX11_next 161 = .ok (.goto 4, 3) := by decide +kernel
theorem dX11_next_164 : decode cX11_next 164 = .ok (.iconst 3, 1) := by decide +kernel
theorem dX11_next_165 : decode cX11_next 165 = .ok (.putfield 96, 3) := by decide +kernel
theorem dX11_next_168 : decode cX11_next 168 = .ok (.goto 28, 3) := by decide +kernel
theorem dX11_next_171 : decode cX11_next 171 = .ok (.aload_n 0, 1) := by decide +kernel
theorem dX11_next_172 : decode cX11_next 172 = .ok (.dup, 1) := by decide +kernel
theorem dX11_next_173 : decode cX11_next 173 = .ok (.getfield 87, 3) := by decide +kernel
theorem dX11_next_176 : decode cX11_next 176 = .ok (.iconst 1, 1) := by decide +kernel
theorem dX11_next_177 : decode cX11_next 177 = .ok (.iadd, 1) := by decide +kernel
theorem dX11_next_178 : decode cX11_next 178 = .ok (.putfield 87, 3) := by decide +kernel
theorem dX11_next_181 : decode cX11_next 181 = .ok (.aload_n 0, 1) := by decide +kernel
theorem dX11_next_182 : decode cX11_next 182 = .ok (.iload_n 1, 1) := by decide +kernel
theorem dX11_next_183 : decode cX11_next 183 = .ok (.bipush 59, 2) := by decide +kernel
theorem dX11_next_185 : decode cX11_next 185 = .ok (.if_icmp .ne 7, 3) := by decide +kernel
theorem dX11_next_188 : decode cX11_next 188 = .ok (.iconst 4, 1) := by decide +kernel
theorem dX11_next_189 : decode cX11_next 189 = .ok (.goto 4, 3) := by decide +kernel
theorem dX11_next_192 : decode cX11_next 192 = .ok (.iconst 0, 1) := by decide +kernel
theorem dX11_next_193 : decode cX11_next 193 = .ok (.putfield 96, 3) := by decide +kernel
theorem dX11_next_196 : decode cX11_next 196 = .ok (.aload_n 0, 1) := by decide +kernel
theorem dX11_next_197 : decode cX11_next 197 = .ok (.aload_n 0, 1) := by decide +kernel
theorem dX11_next_198 : decode cX11_next 198 = .ok (.getfield 87, 3) := by decide +kernel
theorem dX11_next_201 : decode cX11_next 201 = .ok (.putfield 105, 3) := by decide +kernel
theorem dX11_next_204 : decode cX11_next 204 = .ok (.return_, 1) := by decide +kernel
theorem dX11_begin_0 : decode cX11_begin 0 = .ok (.aload_n 0, 1) := by decide +kernel
theorem dX11_begin_1 : decode cX11_begin 1 = .ok (.aload_n 0, 1) := by decide +kernel
theorem dX11_begin_2 : decode cX11_begin 2 = .ok (.getfield 77, 3) := by decide +kernel
theorem dX11_begin_5 : decode cX11_begin 5 = .ok (.putfield 83, 3) := by decide +kernel
theorem dX11_begin_8 : decode cX11_begin 8 = .ok (.aload_n 0, 1) := by decide +kernel
theorem dX11_begin_9 : decode cX11_begin 9 = .ok (.iconst 0, 1) := by decide +kernel
theorem dX11_begin_10 : decode cX11_begin 10 = .ok (.putfield 77, 3) := by decide +kernel
theorem dX11_begin_13 : decode cX11_begin 13 = .ok (.aload_n 0, 1) := by decide +kernel
theorem dX11_begin_14 : decode cX11_begin 14 = .ok (.iconst 0, 1) := by decide +kernel
theorem dX11_begin_15 : decode cX11_begin 15 = .ok (.putfield 87, 3) := by decide +kernel
theorem dX11_begin_18 : decode cX11_begin 18 = .ok (.aload_n 0, 1) := by decide +kernel
theorem dX11_begin_19 : decode cX11_begin 19 = .ok (.iconst 0, 1) := by decide +kernel
theorem dX11_begin_20 : decode cX11_begin 20 = .ok (.putfield 108, 3) := by decide +kernel
theorem dX11_begin_23 : decode cX11_begin 23 = .ok (.aload_n 0, 1) := by decide +kernel
theorem dX11_begin_24 : decode cX11_begin 24 = .ok (.invokevirtual 111, 3) := by decide +kernel
theorem dX11_begin_27 : decode cX11_begin 27 = .ok (.return_, 1) := by decide +kernel
theorem dX11_bad_0 : decode cX11_bad 0 = .ok (.aload_n 0, 1) := by decide +kernel
theorem dX11_bad_1 : decode cX11_bad 1 = .ok (.getfield 108, 3) := by decide +kernel
theorem dX11_bad_4 : decode cX11_bad 4 = .ok (.ifCond .ne 16, 3) := by decide +kernel
theorem dX11_bad_7 : decode cX11_bad 7 = .ok (.aload_n 0, 1) := by decide +kernel
theorem dX11_bad_8 : decode cX11_bad 8 = .ok (.iload_n 1, 1) := by decide +kernel
theorem dX11_bad_9 : decode cX11_bad 9 = .ok (.putfield 108, 3) := by decide +kernel
theorem dX11_bad_12 : decode cX11_bad 12 = .ok (.aload_n 0, 1) := by decide +kernel
theorem dX11_bad_13 : decode cX11_bad 13 = .ok (.aload_n 0, 1) := by decide +kernel
theorem dX11_bad_14 : decode cX11_bad 14 = .ok (.getfield 93, 3) := by decide +kernel
theorem dX11_bad_17 : decode cX11_bad 17 = .ok (.putfield 114, 3) := by decide +kernel
theorem dX11_bad_20 : decode cX11_bad 20 = .ok (.return_, 1) := by decide +kernel
theorem dX11_must_0 : decode cX11_must 0 = .ok (.iload_n 1, 1) := by decide +kernel
theorem dX11_must_1 : decode cX11_must 1 = .ok (.ifCond .ne 8, 3) := by decide +kernel
theorem dX11_must_4 : decode cX11_must 4 = .ok (.aload_n 0, 1) := by decide +kernel
theorem dX11_must_5 : decode cX11_must 5 = .ok (.iconst 1, 1) := by decide +kernel
theorem dX11_must_6 : decode cX11_must 6 = .ok (.invokevirtual 117, 3) := by decide +kernel
theorem dX11_must_9 : decode cX11_must 9 = .ok (.aload_n 0, 1) := by decide +kernel
theorem dX11_must_10 : decode cX11_must 10 = .ok (.getfield 108, 3) := by decide +kernel
theorem dX11_must_13 : decode cX11_must 13 = .ok (.ifCond .ne 7, 3) := by decide +kernel
theorem dX11_must_16 : decode cX11_must 16 = .ok (.aload_n 0, 1) := by decide +kernel
theorem dX11_must_17 : decode cX11_must 17 = .ok (.invokevirtual 111, 3) := by decide +kernel
theorem dX11_must_20 : decode cX11_must 20 = .ok (.return_, 1) := by decide +kernel
theorem dX11_name_0 : decode cX11_name 0 = .ok (.lconst 0, 1) := by decide +kernel
theorem dX11_name_1 : decode cX11_name 1 = .ok (.lstore_n 1, 1) := by decide +kernel
theorem dX11_name_2 : decode cX11_name 2 = .ok (.aload_n 0, 1) := by decide +kernel
theorem dX11_name_3 : decode cX11_name 3 = .ok (.getfield 93, 3) := by decide +kernel
theorem dX11_name_6 : decode cX11_name 6 = .ok (.istore_n 3, 1) := by decide +kernel
theorem dX11_name_7 : decode cX11_name 7 = .ok (.iload_n 3, 1) := by decide +kernel
theorem dX11_name_8 : decode cX11_name 8 = .ok (.aload_n 0, 1) := by decide +kernel
theorem dX11_name_9 : decode cX11_name 9 = .ok (.getfield 105, 3) := by decide +kernel
theorem dX11_name_12 : decode cX11_name 12 = .ok (.if_icmp .ge 44, 3) := by decide +kernel
theorem dX11_name_15 : decode cX11_name 15 = .ok (.aload_n 0, 1) := by decide +kernel
theorem dX11_name_16 : decode cX11_name 16 = .ok (.getfield 96, 3) := by decide +kernel
theorem dX11_name_19 : decode cX11_name 19 = .ok (.iconst 2, 1) := by decide +kernel
theorem dX11_name_20 : decode cX11_name 20 = .ok (.if_icmp .ne 36, 3) := by decide +kernel
theorem dX11_name_23 : decode cX11_name 23 = .ok (.aload_n 0, 1) := by decide +kernel
theorem dX11_name_24 : decode cX11_name 24 = .ok (.getfield 105, 3) := by decide +kernel
theorem dX11_name_27 : decode cX11_name 27 = .ok (.aload_n 0, 1) := by decide +kernel
theorem dX11_name_28 : decode cX11_name 28 = .ok (.getfield 93, 3) := by decide +kernel
theorem dX11_name_31 : decode cX11_name 31 = .ok (.isub, 1) := by decide +kernel
theorem dX11_name_32 : decode cX11_name 32 = .ok (.bipush 8, 2) := by decide +kernel
theorem dX11_name_34 : decode cX11_name 34 = .ok (.if_icmp .ge 22, 3) := by decide +kernel
theorem dX11_name_37 : decode cX11_name 37 = .ok (.lload_n 1, 1) := by decide +kernel
theorem dX11_name_38 : decode cX11_name 38 = .ok (.bipush 8, 2) := by decide +kernel
theorem dX11_name_40 : decode cX11_name 40 = .ok (.lshl, 1) := by decide +kernel
theorem dX11_name_41 : decode cX11_name 41 = .ok (.aload_n 0, 1) := by decide +kernel
theorem dX11_name_42 : decode cX11_name 42 = .ok (.getfield 28, 3) := by decide +kernel
theorem dX11_name_45 : decode cX11_name 45 = .ok (.iload_n 3, 1) := by decide +kernel
theorem dX11_name_46 : decode cX11_name 46 = .ok (.iaload, 1) := by decide +kernel
theorem dX11_name_47 : decode cX11_name 47 = .ok (.i2l, 1) := by decide +kernel
theorem dX11_name_48 : decode cX11_name 48 = .ok (.lor, 1) := by decide +kernel
theorem dX11_name_49 : decode cX11_name 49 = .ok (.lstore_n 1, 1) := by decide +kernel
theorem dX11_name_50 : decode cX11_name 50 = .ok (.iinc 3 1, 3) := by decide +kernel
theorem dX11_name_53 : decode cX11_name 53 = .ok (.goto (-46), 3) := by decide +kernel
theorem dX11_name_56 : decode cX11_name 56 = .ok (.aload_n 0, 1) := by decide +kernel
theorem dX11_name_57 : decode cX11_name 57 = .ok (.getfield 108, 3) := by decide +kernel
theorem dX11_name_60 : decode cX11_name 60 = .ok (.ifCond .ne 7, 3) := by decide +kernel
theorem dX11_name_63 : decode cX11_name 63 = .ok (.lload_n 1, 1) := by decide +kernel
theorem dX11_name_64 : decode cX11_name 64 = .ok (.goto 4, 3) := by decide +kernel
theorem dX11_name_67 : decode cX11_name 67 = .ok (.lconst 0, 1) := by decide +kernel
theorem dX11_name_68 : decode cX11_name 68 = .ok (.lreturn, 1) := by decide +kernel
theorem dX11_figures_0 : decode cX11_figures 0 = .ok (.iconst 0, 1) := by decide +kernel
theorem dX11_figures_1 : decode cX11_figures 1 = .ok (.istore_n 1, 1) := by decide +kernel
theorem dX11_figures_2 : decode cX11_figures 2 = .ok (.aload_n 0, 1) := by decide +kernel
theorem dX11_figures_3 : decode cX11_figures 3 = .ok (.getfield 93, 3) := by decide +kernel
theorem dX11_figures_6 : decode cX11_figures 6 = .ok (.istore_n 2, 1) := by decide +kernel
theorem dX11_figures_7 : decode cX11_figures 7 = .ok (.iload_n 2, 1) := by decide +kernel
theorem dX11_figures_8 : decode cX11_figures 8 = .ok (.aload_n 0, 1) := by decide +kernel
theorem dX11_figures_9 : decode cX11_figures 9 = .ok (.getfield 105, 3) := by decide +kernel
theorem dX11_figures_12 : decode cX11_figures 12 = .ok (.if_icmp .ge 32, 3) := by decide +kernel
theorem dX11_figures_15 : decode cX11_figures 15 = .ok (.aload_n 0, 1) := by decide +kernel
theorem dX11_figures_16 : decode cX11_figures 16 = .ok (.getfield 96, 3) := by decide +kernel
theorem dX11_figures_19 : decode cX11_figures 19 = .ok (.iconst 3, 1) := by decide +kernel
theorem dX11_figures_20 : decode cX11_figures 20 = .ok (.if_icmp .ne 24, 3) := by decide +kernel
theorem dX11_figures_23 : decode cX11_figures 23 = .ok (.bipush 10, 2) := by decide +kernel
theorem dX11_figures_25 : decode cX11_figures 25 = .ok (.iload_n 1, 1) := by decide +kernel
theorem dX11_figures_26 : decode cX11_figures 26 = .ok (.imul, 1) := by decide +kernel
theorem dX11_figures_27 : decode cX11_figures 27 = .ok (.aload_n 0, 1) := by decide +kernel
theorem dX11_figures_28 : decode cX11_figures 28 = .ok (.getfield 28, 3) := by decide +kernel
theorem dX11_figures_31 : decode cX11_figures 31 = .ok (.iload_n 2, 1) := by decide +kernel
theorem dX11_figures_32 : decode cX11_figures 32 = .ok (.iaload, 1) := by decide +kernel
theorem dX11_figures_33 : decode cX11_figures 33 = .ok (.iadd, 1) := by decide +kernel
theorem dX11_figures_34 : decode cX11_figures 34 = .ok (.bipush 48, 2) := by decide +kernel
theorem dX11_figures_36 : decode cX11_figures 36 = .ok (.isub, 1) := by decide +kernel
theorem dX11_figures_37 : decode cX11_figures 37 = .ok (.istore_n 1, 1) := by decide +kernel
theorem dX11_figures_38 : decode cX11_figures 38 = .ok (.iinc 2 1, 3) := by decide +kernel
theorem dX11_figures_41 : decode cX11_figures 41 = .ok (.goto (-34), 3) := by decide +kernel
theorem dX11_figures_44 : decode cX11_figures 44 = .ok (.iload_n 1, 1) := by decide +kernel
theorem dX11_figures_45 : decode cX11_figures 45 = .ok (.ireturn, 1) := by decide +kernel
theorem dX11_number_0 : decode cX11_number 0 = .ok (.aload_n 0, 1) := by decide +kernel
theorem dX11_number_1 : decode cX11_number 1 = .ok (.getfield 108, 3) := by decide +kernel
theorem dX11_number_4 : decode cX11_number 4 = .ok (.ifCond .le 5, 3) := by decide +kernel
theorem dX11_number_7 : decode cX11_number 7 = .ok (.iconst 0, 1) := by decide +kernel
theorem dX11_number_8 : decode cX11_number 8 = .ok (.ireturn, 1) := by decide +kernel
theorem dX11_number_9 : decode cX11_number 9 = .ok (.aload_n 0, 1) := by decide +kernel
theorem dX11_number_10 : decode cX11_number 10 = .ok (.invokevirtual 121, 3) := by decide +kernel
theorem dX11_number_13 : decode cX11_number 13 = .ok (.istore_n 3, 1) := by decide +kernel
theorem dX11_number_14 : decode cX11_number 14 = .ok (.aload_n 0, 1) := by decide +kernel
theorem dX11_number_15 : decode cX11_number 15 = .ok (.getfield 96, 3) := by decide +kernel
theorem dX11_number_18 : decode cX11_number 18 = .ok (.iconst 3, 1) := by decide +kernel
theorem dX11_number_19 : decode cX11_number 19 = .ok (.if_icmp .ne 20, 3) := by decide +kernel
theorem dX11_number_22 : decode cX11_number 22 = .ok (.iload_n 3, 1) := by decide +kernel
theorem dX11_number_23 : decode cX11_number 23 = .ok (.i2l, 1) := by decide +kernel
theorem dX11_number_24 : decode cX11_number 24 = .ok (.iload_n 1, 1) := by decide +kernel
theorem dX11_number_25 : decode cX11_number 25 = .ok (.i2l, 1) := by decide +kernel
theorem dX11_number_26 : decode cX11_number 26 = .ok (.iload_n 2, 1) := by decide +kernel
theorem dX11_number_27 : decode cX11_number 27 = .ok (.i2l, 1) := by decide +kernel
theorem dX11_number_28 : decode cX11_number 28 = .ok (.invokestatic 60, 3) := by decide +kernel
theorem dX11_number_31 : decode cX11_number 31 = .ok (.ifCond .ne 8, 3) := by decide +kernel
theorem dX11_number_34 : decode cX11_number 34 = .ok (.aload_n 0, 1) := by decide +kernel
theorem dX11_number_35 : decode cX11_number 35 = .ok (.iconst 2, 1) := by decide +kernel
theorem dX11_number_36 : decode cX11_number 36 = .ok (.invokevirtual 117, 3) := by decide +kernel
theorem dX11_number_39 : decode cX11_number 39 = .ok (.aload_n 0, 1) := by decide +kernel
theorem dX11_number_40 : decode cX11_number 40 = .ok (.aload_n 0, 1) := by decide +kernel
theorem dX11_number_41 : decode cX11_number 41 = .ok (.getfield 96, 3) := by decide +kernel
theorem dX11_number_44 : decode cX11_number 44 = .ok (.iconst 3, 1) := by decide +kernel
theorem dX11_number_45 : decode cX11_number 45 = .ok (.if_icmp .ne 7, 3) := by decide +kernel
theorem dX11_number_48 : decode cX11_number 48 = .ok (.iconst 1, 1) := by decide +kernel
theorem dX11_number_49 : decode cX11_number 49 = .ok (.goto 4, 3) := by decide +kernel
theorem dX11_number_52 : decode cX11_number 52 = .ok (.iconst 0, 1) := by decide +kernel
theorem dX11_number_53 : decode cX11_number 53 = .ok (.invokevirtual 125, 3) := by decide +kernel
theorem dX11_number_56 : decode cX11_number 56 = .ok (.iload_n 3, 1) := by decide +kernel
theorem dX11_number_57 : decode cX11_number 57 = .ok (.ireturn, 1) := by decide +kernel
theorem dX11_kindBy_0 : decode cX11_kindBy 0 = .ok (.lload_n 0, 1) := by decide +kernel
theorem dX11_kindBy_1 : decode cX11_kindBy 1 = .ok (.ldc2_w 129, 3) := by decide +kernel
theorem dX11_kindBy_4 : decode cX11_kindBy 4 = .ok (.lcmp, 1) := by decide +kernel
theorem dX11_kindBy_5 : decode cX11_kindBy 5 = .ok (.ifCond .ne 7, 3) := by decide +kernel
theorem dX11_kindBy_8 : decode cX11_kindBy 8 = .ok (.iconst 1, 1) := by decide +kernel
theorem dX11_kindBy_9 : decode cX11_kindBy 9 = .ok (.goto 53, 3) := by decide +kernel
theorem dX11_kindBy_12 : decode cX11_kindBy 12 = .ok (.lload_n 0, 1) := by decide +kernel
theorem dX11_kindBy_13 : decode cX11_kindBy 13 = .ok (.ldc2_w 131, 3) := by decide +kernel
theorem dX11_kindBy_16 : decode cX11_kindBy 16 = .ok (.lcmp, 1) := by decide +kernel
theorem dX11_kindBy_17 : decode cX11_kindBy 17 = .ok (.ifCond .ne 7, 3) := by decide +kernel
theorem dX11_kindBy_20 : decode cX11_kindBy 20 = .ok (.iconst 2, 1) := by decide +kernel
theorem dX11_kindBy_21 : decode cX11_kindBy 21 = .ok (.goto 41, 3) := by decide +kernel
theorem dX11_kindBy_24 : decode cX11_kindBy 24 = .ok (.lload_n 0, 1) := by decide +kernel
theorem dX11_kindBy_25 : decode cX11_kindBy 25 = .ok (.ldc2_w 133, 3) := by decide +kernel
theorem dX11_kindBy_28 : decode cX11_kindBy 28 = .ok (.lcmp, 1) := by decide +kernel
theorem dX11_kindBy_29 : decode cX11_kindBy 29 = .ok (.ifCond .ne 7, 3) := by decide +kernel
theorem dX11_kindBy_32 : decode cX11_kindBy 32 = .ok (.iconst 4, 1) := by decide +kernel
theorem dX11_kindBy_33 : decode cX11_kindBy 33 = .ok (.goto 29, 3) := by decide +kernel
theorem dX11_kindBy_36 : decode cX11_kindBy 36 = .ok (.lload_n 0, 1) := by decide +kernel
theorem dX11_kindBy_37 : decode cX11_kindBy 37 = .ok (.ldc2_w 135, 3) := by decide +kernel
theorem dX11_kindBy_40 : decode cX11_kindBy 40 = .ok (.lcmp, 1) := by decide +kernel
theorem dX11_kindBy_41 : decode cX11_kindBy 41 = .ok (.ifCond .ne 7, 3) := by decide +kernel
theorem dX11_kindBy_44 : decode cX11_kindBy 44 = .ok (.iconst 5, 1) := by decide +kernel
theorem dX11_kindBy_45 : decode cX11_kindBy 45 = .ok (.goto 17, 3) := by decide +kernel
theorem dX11_kindBy_48 : decode cX11_kindBy 48 = .ok (.lload_n 0, 1) := by decide +kernel
theorem dX11_kindBy_49 : decode cX11_kindBy 49 = .ok (.ldc2_w 137, 3) := by decide +kernel
theorem dX11_kindBy_52 : decode cX11_kindBy 52 = .ok (.lcmp, 1) := by decide +kernel
theorem dX11_kindBy_53 : decode cX11_kindBy 53 = .ok (.ifCond .ne 7, 3) := by decide +kernel
theorem dX11_kindBy_56 : decode cX11_kindBy 56 = .ok (.iconst 3, 1) := by decide +kernel
theorem dX11_kindBy_57 : decode cX11_kindBy 57 = .ok (.goto 5, 3) := by decide +kernel
theorem dX11_kindBy_60 : decode cX11_kindBy 60 = .ok (.ldc 86, 2) := by decide +kernel
theorem dX11_kindBy_62 : decode cX11_kindBy 62 = .ok (.ireturn, 1) := by decide +kernel
theorem dX11_mustEnd_0 : decode cX11_mustEnd 0 = .ok (.aload_n 0, 1) := by decide +kernel
theorem dX11_mustEnd_1 : decode cX11_mustEnd 1 = .ok (.getfield 108, 3) := by decide +kernel
theorem dX11_mustEnd_4 : decode cX11_mustEnd 4 = .ok (.ifCond .ne 20, 3) := by decide +kernel
theorem dX11_mustEnd_7 : decode cX11_mustEnd 7 = .ok (.aload_n 0, 1) := by decide +kernel
theorem dX11_mustEnd_8 : decode cX11_mustEnd 8 = .ok (.aload_n 0, 1) := by decide +kernel
theorem dX11_mustEnd_9 : decode cX11_mustEnd 9 = .ok (.getfield 96, 3) := by decide +kernel
theorem dX11_mustEnd_12 : decode cX11_mustEnd 12 = .ok (.iconst 4, 1) := by decide +kernel
theorem dX11_mustEnd_13 : decode cX11_mustEnd 13 = .ok (.if_icmp .ne 7, 3) := by decide +kernel
theorem dX11_mustEnd_16 : decode cX11_mustEnd 16 = .ok (.iconst 1, 1) := by decide +kernel
theorem dX11_mustEnd_17 : decode cX11_mustEnd 17 = .ok (.goto 4, 3) := by decide +kernel
theorem dX11_mustEnd_20 : decode cX11_mustEnd 20 = .ok (.iconst 0, 1) := by decide +kernel
theorem dX11_mustEnd_21 : decode cX11_mustEnd 21 = .ok (.invokevirtual 125, 3) := by decide +kernel
theorem dX11_mustEnd_24 : decode cX11_mustEnd 24 = .ok (.return_, 1) := by decide +kernel
theorem dX11_begins_0 : decode cX11_begins 0 = .ok (.aload_n 0, 1) := by decide +kernel
theorem dX11_begins_1 : decode cX11_begins 1 = .ok (.getfield 22, 3) := by decide +kernel
theorem dX11_begins_4 : decode cX11_begins 4 = .ok (.iload_n 1, 1) := by decide +kernel
theorem dX11_begins_5 : decode cX11_begins 5 = .ok (.iaload, 1) := by decide +kernel
theorem dX11_begins_6 : decode cX11_begins 6 = .ok (.iload_n 2, 1) := by decide +kernel
theorem dX11_begins_7 : decode cX11_begins 7 = .ok (.if_icmp .ne 8, 3) := by decide +kernel
theorem dX11_begins_10 : decode cX11_begins 10 = .ok (.aload_n 0, 1) := by decide +kernel
theorem dX11_begins_11 : decode cX11_begins 11 = .ok (.iconst 3, 1) := by decide +kernel
theorem dX11_begins_12 : decode cX11_begins 12 = .ok (.invokevirtual 117, 3) := by decide +kernel
theorem dX11_begins_15 : decode cX11_begins 15 = .ok (.aload_n 0, 1) := by decide +kernel
theorem dX11_begins_16 : decode cX11_begins 16 = .ok (.iconst 1, 1) := by decide +kernel
theorem dX11_begins_17 : decode cX11_begins 17 = .ok (.invokevirtual 125, 3) := by decide +kernel
theorem dX11_begins_20 : decode cX11_begins 20 = .ok (.return_, 1) := by decide +kernel
theorem dX11_readSpeaker_0 : decode cX11_readSpeaker 0 = .ok (.aload_n 0, 1) := by decide +kernel
theorem dX11_readSpeaker_1 : decode cX11_readSpeaker 1 = .ok (.iconst 2, 1) := by decide +kernel
theorem dX11_readSpeaker_2 : decode cX11_readSpeaker 2 = .ok (.iconst 5, 1) := by decide +kernel
theorem dX11_readSpeaker_3 : decode cX11_readSpeaker 3 = .ok (.invokevirtual 139, 3) := by decide +kernel
theorem dX11_readSpeaker_6 : decode cX11_readSpeaker 6 = .ok (.aload_n 0, 1) := by decide +kernel
theorem dX11_readSpeaker_7 : decode cX11_readSpeaker 7 = .ok (.iconst 0, 1) := by decide +kernel
theorem dX11_readSpeaker_8 : decode cX11_readSpeaker 8 = .ok (.bipush 10, 2) := by decide +kernel
theorem dX11_readSpeaker_10 : decode cX11_readSpeaker 10 = .ok (.invokevirtual 143, 3) := by decide +kernel
theorem dX11_readSpeaker_13 : decode cX11_readSpeaker 13 = .ok (.istore_n 1, 1) := by decide +kernel
theorem dX11_readSpeaker_14 : decode cX11_readSpeaker 14 = .ok (.aload_n 0, 1) := by decide +kernel
theorem dX11_readSpeaker_15 : decode cX11_readSpeaker 15 = .ok (.iconst 0, 1) := by decide +kernel
theorem dX11_readSpeaker_16 : decode cX11_readSpeaker 16 = .ok (.bipush 99, 2) := by decide +kernel
theorem dX11_readSpeaker_18 : decode cX11_readSpeaker 18 = .ok (.invokevirtual 143, 3) := by decide +kernel
theorem dX11_readSpeaker_21 : decode cX11_readSpeaker 21 = .ok (.istore_n 2, 1) := by decide +kernel
theorem dX11_readSpeaker_22 : decode cX11_readSpeaker 22 = .ok (.aload_n 0, 1) := by decide +kernel
theorem dX11_readSpeaker_23 : decode cX11_readSpeaker 23 = .ok (.invokevirtual 147, 3) := by decide +kernel
theorem dX11_readSpeaker_26 : decode cX11_readSpeaker 26 = .ok (.aload_n 0, 1) := by decide +kernel
theorem dX11_readSpeaker_27 : decode cX11_readSpeaker 27 = .ok (.getfield 108, 3) := by decide +kernel
theorem dX11_readSpeaker_30 : decode cX11_readSpeaker 30 = .ok (.ifCond .ne 47, 3) := by decide +kernel
theorem dX11_readSpeaker_33 : decode cX11_readSpeaker 33 = .ok (.aload_n 0, 1) := by decide +kernel
theorem dX11_readSpeaker_34 : decode cX11_readSpeaker 34 = .ok (.getfield 22, 3) := by decide +kernel
theorem dX11_readSpeaker_37 : decode cX11_readSpeaker 37 = .ok (.iconst 4, 1) := by decide +kernel
theorem dX11_readSpeaker_38 : decode cX11_readSpeaker 38 = .ok (.iconst 2, 1) := by decide +kernel
theorem dX11_readSpeaker_39 : decode cX11_readSpeaker 39 = .ok (.aload_n 0, 1) := by decide +kernel
theorem dX11_readSpeaker_40 : decode cX11_readSpeaker 40 = .ok (.getfield 22, 3) := by decide +kernel
theorem dX11_readSpeaker_43 : decode cX11_readSpeaker 43 = .ok (.iconst 2, 1) := by decide +kernel
theorem dX11_readSpeaker_44 : decode cX11_readSpeaker 44 = .ok (.iaload, 1) := by decide +kernel
theorem dX11_readSpeaker_45 : decode cX11_readSpeaker 45 = .ok (.imul, 1) := by decide +kernel
theorem dX11_readSpeaker_46 : decode cX11_readSpeaker 46 = .ok (.iadd, 1) := by decide +kernel
theorem dX11_readSpeaker_47 : decode cX11_readSpeaker 47 = .ok (.iload_n 1, 1) := by decide +kernel
theorem dX11_readSpeaker_48 : decode cX11_readSpeaker 48 = .ok (.iastore, 1) := by decide +kernel
theorem dX11_readSpeaker_49 : decode cX11_readSpeaker 49 = .ok (.aload_n 0, 1) := by decide +kernel
theorem dX11_readSpeaker_50 : decode cX11_readSpeaker 50 = .ok (.getfield 22, 3) := by decide +kernel
theorem dX11_readSpeaker_53 : decode cX11_readSpeaker 53 = .ok (.iconst 4, 1) := by decide +kernel
theorem dX11_readSpeaker_54 : decode cX11_readSpeaker 54 = .ok (.iconst 2, 1) := by decide +kernel
theorem dX11_readSpeaker_55 : decode cX11_readSpeaker 55 = .ok (.aload_n 0, 1) := by decide +kernel
theorem dX11_readSpeaker_56 : decode cX11_readSpeaker 56 = .ok (.getfield 22, 3) := by decide +kernel
theorem dX11_readSpeaker_59 : decode cX11_readSpeaker 59 = .ok (.iconst 2, 1) := by decide +kernel
theorem dX11_readSpeaker_60 : decode cX11_readSpeaker 60 = .ok (.iaload, 1) := by decide +kernel
theorem dX11_readSpeaker_61 : decode cX11_readSpeaker 61 = .ok (.imul, 1) := by decide +kernel
theorem dX11_readSpeaker_62 : decode cX11_readSpeaker 62 = .ok (.iadd, 1) := by decide +kernel
theorem dX11_readSpeaker_63 : decode cX11_readSpeaker 63 = .ok (.iconst 1, 1) := by decide +kernel
theorem dX11_readSpeaker_64 : decode cX11_readSpeaker 64 = .ok (.iadd, 1) := by decide +kernel
theorem dX11_readSpeaker_65 : decode cX11_readSpeaker 65 = .ok (.iload_n 2, 1) := by decide +kernel
theorem dX11_readSpeaker_66 : decode cX11_readSpeaker 66 = .ok (.iastore, 1) := by decide +kernel
theorem dX11_readSpeaker_67 : decode cX11_readSpeaker 67 = .ok (.aload_n 0, 1) := by decide +kernel
theorem dX11_readSpeaker_68 : decode cX11_readSpeaker 68 = .ok (.getfield 22, 3) := by decide +kernel
theorem dX11_readSpeaker_71 : decode cX11_readSpeaker 71 = .ok (.iconst 2, 1) := by decide +kernel
theorem dX11_readSpeaker_72 : decode cX11_readSpeaker 72 = .ok (.dup2, 1) := by decide +kernel
theorem dX11_readSpeaker_73 : decode cX11_readSpeaker 73 = .ok (.iaload, 1) := by decide +kernel
theorem dX11_readSpeaker_74 : decode cX11_readSpeaker 74 = .ok (.iconst 1, 1) := by decide +kernel
theorem dX11_readSpeaker_75 : decode cX11_readSpeaker 75 = .ok (.iadd, 1) := by decide +kernel
theorem dX11_readSpeaker_76 : decode cX11_readSpeaker 76 = .ok (.iastore, 1) := by decide +kernel
theorem dX11_readSpeaker_77 : decode cX11_readSpeaker 77 = .ok (.return_, 1) := by decide +kernel
theorem dX11_readYarn_0 : decode cX11_readYarn 0 = .ok (.aload_n 0, 1) := by decide +kernel
theorem dX11_readYarn_1 : decode cX11_readYarn 1 = .ok (.iconst 3, 1) := by decide +kernel
theorem dX11_readYarn_2 : decode cX11_readYarn 2 = .ok (.bipush 9, 2) := by decide +kernel
theorem dX11_readYarn_4 : decode cX11_readYarn 4 = .ok (.invokevirtual 139, 3) := by decide +kernel
theorem dX11_readYarn_7 : decode cX11_readYarn 7 = .ok (.aload_n 0, 1) := by decide +kernel
theorem dX11_readYarn_8 : decode cX11_readYarn 8 = .ok (.invokevirtual 150, 3) := by decide +kernel
theorem dX11_readYarn_11 : decode cX11_readYarn 11 = .ok (.invokestatic 154, 3) := by decide +kernel
theorem dX11_readYarn_14 : decode cX11_readYarn 14 = .ok (.istore_n 1, 1) := by decide +kernel
theorem dX11_readYarn_15 : decode cX11_readYarn 15 = .ok (.aload_n 0, 1) := by decide +kernel
theorem dX11_readYarn_16 : decode cX11_readYarn 16 = .ok (.getfield 108, 3) := by decide +kernel
theorem dX11_readYarn_19 : decode cX11_readYarn 19 = .ok (.ifCond .ne 18, 3) := by decide +kernel
theorem dX11_readYarn_22 : decode cX11_readYarn 22 = .ok (.aload_n 0, 1) := by decide +kernel
theorem dX11_readYarn_23 : decode cX11_readYarn 23 = .ok (.iload_n 1, 1) := by decide +kernel
theorem dX11_readYarn_24 : decode cX11_readYarn 24 = .ok (.ldc 86, 2) := by decide +kernel
theorem dX11_readYarn_26 : decode cX11_readYarn 26 = .ok (.if_icmp .eq 7, 3) := by decide +kernel
theorem dX11_readYarn_29 : decode cX11_readYarn 29 = .ok (.iconst 1, 1) := by decide +kernel
theorem dX11_readYarn_30 : decode cX11_readYarn 30 = .ok (.goto 4, 3) := by decide +kernel
theorem dX11_readYarn_33 : decode cX11_readYarn 33 = .ok (.iconst 0, 1) := by decide +kernel
theorem dX11_readYarn_34 : decode cX11_readYarn 34 = .ok (.invokevirtual 125, 3) := by decide +kernel
theorem dX11_readYarn_37 : decode cX11_readYarn 37 = .ok (.aload_n 0, 1) := by decide +kernel
theorem dX11_readYarn_38 : decode cX11_readYarn 38 = .ok (.iconst 0, 1) := by decide +kernel
theorem dX11_readYarn_39 : decode cX11_readYarn 39 = .ok (.aload_n 0, 1) := by decide +kernel
theorem dX11_readYarn_40 : decode cX11_readYarn 40 = .ok (.getfield 22, 3) := by decide +kernel
theorem dX11_readYarn_43 : decode cX11_readYarn 43 = .ok (.iconst 2, 1) := by decide +kernel
theorem dX11_readYarn_44 : decode cX11_readYarn 44 = .ok (.iaload, 1) := by decide +kernel
theorem dX11_readYarn_45 : decode cX11_readYarn 45 = .ok (.iconst 1, 1) := by decide +kernel
theorem dX11_readYarn_46 : decode cX11_readYarn 46 = .ok (.isub, 1) := by decide +kernel
theorem dX11_readYarn_47 : decode cX11_readYarn 47 = .ok (.invokevirtual 143, 3) := by decide +kernel
theorem dX11_readYarn_50 : decode cX11_readYarn 50 = .ok (.istore_n 2, 1) := by decide +kernel
theorem dX11_readYarn_51 : decode cX11_readYarn 51 = .ok (.aload_n 0, 1) := by decide +kernel
theorem dX11_readYarn_52 : decode cX11_readYarn 52 = .ok (.iconst 1, 1) := by decide +kernel
theorem dX11_readYarn_53 : decode cX11_readYarn 53 = .ok (.bipush 9, 2) := by decide +kernel
theorem dX11_readYarn_55 : decode cX11_readYarn 55 = .ok (.invokevirtual 143, 3) := by decide +kernel
theorem dX11_readYarn_58 : decode cX11_readYarn 58 = .ok (.istore_n 3, 1) := by decide +kernel
theorem dX11_readYarn_59 : decode cX11_readYarn 59 = .ok (.aload_n 0, 1) := by decide +kernel
theorem dX11_readYarn_60 : decode cX11_readYarn 60 = .ok (.invokevirtual 147, 3) := by decide +kernel
theorem dX11_readYarn_63 : decode cX11_readYarn 63 = .ok (.aload_n 0, 1) := by decide +kernel
theorem dX11_readYarn_64 : decode cX11_readYarn 64 = .ok (.getfield 108, 3) := by decide +kernel
theorem dX11_readYarn_67 : decode cX11_readYarn 67 = .ok (.ifCond .ne 65, 3) := by decide +kernel
theorem dX11_readYarn_70 : decode cX11_readYarn 70 = .ok (.bipush 14, 2) := by decide +kernel
theorem dX11_readYarn_72 : decode cX11_readYarn 72 = .ok (.bipush 7, 2) := by decide +kernel
theorem dX11_readYarn_74 : decode cX11_readYarn 74 = .ok (.aload_n 0, 1) := by decide +kernel
theorem dX11_readYarn_75 : decode cX11_readYarn 75 = .ok (.getfield 22, 3) := by decide +kernel
theorem dX11_readYarn_78 : decode cX11_readYarn 78 = .ok (.iconst 3, 1) := by decide +kernel
theorem dX11_readYarn_79 : decode cX11_readYarn 79 = .ok (.iaload, 1) := by decide +kernel
theorem dX11_readYarn_80 : decode cX11_readYarn 80 = .ok (.imul, 1) := by decide +kernel
theorem dX11_readYarn_81 : decode cX11_readYarn 81 = .ok (.iadd, 1) := by decide +kernel
theorem dX11_readYarn_82 : decode cX11_readYarn 82 = .ok (.istore 4, 2) := by decide +kernel
theorem dX11_readYarn_84 : decode cX11_readYarn 84 = .ok (.aload_n 0, 1) := by decide +kernel
theorem dX11_readYarn_85 : decode cX11_readYarn 85 = .ok (.getfield 22, 3) := by decide +kernel
theorem dX11_readYarn_88 : decode cX11_readYarn 88 = .ok (.iload 4, 2) := by decide +kernel
theorem dX11_readYarn_90 : decode cX11_readYarn 90 = .ok (.iload_n 1, 1) := by decide +kernel
theorem dX11_readYarn_91 : decode cX11_readYarn 91 = .ok (.iastore, 1) := by decide +kernel
theorem dX11_readYarn_92 : decode cX11_readYarn 92 = .ok (.aload_n 0, 1) := by decide +kernel
theorem dX11_readYarn_93 : decode cX11_readYarn 93 = .ok (.getfield 22, 3) := by decide +kernel
theorem dX11_readYarn_96 : decode cX11_readYarn 96 = .ok (.iload 4, 2) := by decide +kernel
theorem dX11_readYarn_98 : decode cX11_readYarn 98 = .ok (.iconst 1, 1) := by decide +kernel
theorem dX11_readYarn_99 : decode cX11_readYarn 99 = .ok (.iadd, 1) := by decide +kernel
theorem dX11_readYarn_100 : decode cX11_readYarn 100 = .ok (.iload_n 2, 1) := by decide +kernel
theorem dX11_readYarn_101 : decode cX11_readYarn 101 = .ok (.iastore, 1) := by decide +kernel
theorem dX11_readYarn_102 : decode cX11_readYarn 102 = .ok (.aload_n 0, 1) := by decide +kernel
theorem dX11_readYarn_103 : decode cX11_readYarn 103 = .ok (.getfield 22, 3) := by decide +kernel
theorem dX11_readYarn_106 : decode cX11_readYarn 106 = .ok (.iload 4, 2) := by decide +kernel
theorem dX11_readYarn_108 : decode cX11_readYarn 108 = .ok (.iconst 2, 1) := by decide +kernel
theorem dX11_readYarn_109 : decode cX11_readYarn 109 = .ok (.iadd, 1) := by decide +kernel
theorem dX11_readYarn_110 : decode cX11_readYarn 110 = .ok (.iload_n 3, 1) := by decide +kernel
theorem dX11_readYarn_111 : decode cX11_readYarn 111 = .ok (.iastore, 1) := by decide +kernel
theorem dX11_readYarn_112 : decode cX11_readYarn 112 = .ok (.aload_n 0, 1) := by decide +kernel
theorem dX11_readYarn_113 : decode cX11_readYarn 113 = .ok (.getfield 22, 3) := by decide +kernel
theorem dX11_readYarn_116 : decode cX11_readYarn 116 = .ok (.iload 4, 2) := by decide +kernel
theorem dX11_readYarn_118 : decode cX11_readYarn 118 = .ok (.iconst 3, 1) := by decide +kernel
theorem dX11_readYarn_119 : decode cX11_readYarn 119 = .ok (.iadd, 1) := by decide +kernel
theorem dX11_readYarn_120 : decode cX11_readYarn 120 = .ok (.iconst (-1), 1) := by decide +kernel
theorem dX11_readYarn_121 : decode cX11_readYarn 121 = .ok (.iastore, 1) := by decide +kernel
theorem dX11_readYarn_122 : decode cX11_readYarn 122 = .ok (.aload_n 0, 1) := by decide +kernel
theorem dX11_readYarn_123 : decode cX11_readYarn 123 = .ok (.getfield 22, 3) := by decide +kernel
theorem dX11_readYarn_126 : decode cX11_readYarn 126 = .ok (.iconst 3, 1) := by decide +kernel
theorem dX11_readYarn_127 : decode cX11_readYarn 127 = .ok (.dup2, 1) := by decide +kernel
theorem dX11_readYarn_128 : decode cX11_readYarn 128 = .ok (.iaload, 1) := by decide +kernel
theorem dX11_readYarn_129 : decode cX11_readYarn 129 = .ok (.iconst 1, 1) := by decide +kernel
theorem dX11_readYarn_130 : decode cX11_readYarn 130 = .ok (.iadd, 1) := by decide +kernel
theorem dX11_readYarn_131 : decode cX11_readYarn 131 = .ok (.iastore, 1) := by decide +kernel
theorem dX11_readYarn_132 : decode cX11_readYarn 132 = .ok (.return_, 1) := by decide +kernel
theorem dX11_walk_0 : decode cX11_walk 0 = .ok (.aload_n 0, 1) := by decide +kernel
theorem dX11_walk_1 : decode cX11_walk 1 = .ok (.iconst 0, 1) := by decide +kernel
theorem dX11_walk_2 : decode cX11_walk 2 = .ok (.putfield 50, 3) := by decide +kernel
theorem dX11_walk_5 : decode cX11_walk 5 = .ok (.aload_n 0, 1) := by decide +kernel
theorem dX11_walk_6 : decode cX11_walk 6 = .ok (.invokevirtual 158, 3) := by decide +kernel
theorem dX11_walk_9 : decode cX11_walk 9 = .ok (.iconst 0, 1) := by decide +kernel
theorem dX11_walk_10 : decode cX11_walk 10 = .ok (.istore_n 1, 1) := by decide +kernel
theorem dX11_walk_11 : decode cX11_walk 11 = .ok (.iload_n 1, 1) := by decide +kernel
theorem dX11_walk_12 : decode cX11_walk 12 = .ok (.bipush 77, 2) := by decide +kernel
theorem dX11_walk_14 : decode cX11_walk 14 = .ok (.if_icmp .ge 16, 3) := by decide +kernel
theorem dX11_walk_17 : decode cX11_walk 17 = .ok (.aload_n 0, 1) := by decide +kernel
theorem dX11_walk_18 : decode cX11_walk 18 = .ok (.getfield 22, 3) := by decide +kernel
theorem dX11_walk_21 : decode cX11_walk 21 = .ok (.iload_n 1, 1) := by decide +kernel
theorem dX11_walk_22 : decode cX11_walk 22 = .ok (.iconst 0, 1) := by decide +kernel
theorem dX11_walk_23 : decode cX11_walk 23 = .ok (.iastore, 1) := by decide +kernel
theorem dX11_walk_24 : decode cX11_walk 24 = .ok (.iinc 1 1, 3) := by decide +kernel
theorem dX11_walk_27 : decode cX11_walk 27 = .ok (.goto (-16), 3) := by decide +kernel
theorem dX11_walk_30 : decode cX11_walk 30 = .ok (.aload_n 0, 1) := by decide +kernel
theorem dX11_walk_31 : decode cX11_walk 31 = .ok (.aload_n 0, 1) := by decide +kernel
theorem dX11_walk_32 : decode cX11_walk 32 = .ok (.invokevirtual 150, 3) := by decide +kernel
theorem dX11_walk_35 : decode cX11_walk 35 = .ok (.ldc2_w 161, 3) := by decide +kernel
theorem dX11_walk_38 : decode cX11_walk 38 = .ok (.lcmp, 1) := by decide +kernel
theorem dX11_walk_39 : decode cX11_walk 39 = .ok (.ifCond .ne 7, 3) := by decide +kernel
theorem dX11_walk_42 : decode cX11_walk 42 = .ok (.iconst 1, 1) := by decide +kernel
theorem dX11_walk_43 : decode cX11_walk 43 = .ok (.goto 4, 3) := by decide +kernel
theorem dX11_walk_46 : decode cX11_walk 46 = .ok (.iconst 0, 1) := by decide +kernel
theorem dX11_walk_47 : decode cX11_walk 47 = .ok (.invokevirtual 125, 3) := by decide +kernel
theorem dX11_walk_50 : decode cX11_walk 50 = .ok (.aload_n 0, 1) := by decide +kernel
theorem dX11_walk_51 : decode cX11_walk 51 = .ok (.getfield 22, 3) := by decide +kernel
theorem dX11_walk_54 : decode cX11_walk 54 = .ok (.iconst 0, 1) := by decide +kernel
theorem dX11_walk_55 : decode cX11_walk 55 = .ok (.aload_n 0, 1) := by decide +kernel
theorem dX11_walk_56 : decode cX11_walk 56 = .ok (.iconst 1, 1) := by decide +kernel
theorem dX11_walk_57 : decode cX11_walk 57 = .ok (.bipush 50, 2) := by decide +kernel
theorem dX11_walk_59 : decode cX11_walk 59 = .ok (.invokevirtual 143, 3) := by decide +kernel
theorem dX11_walk_62 : decode cX11_walk 62 = .ok (.iastore, 1) := by decide +kernel
theorem dX11_walk_63 : decode cX11_walk 63 = .ok (.aload_n 0, 1) := by decide +kernel
theorem dX11_walk_64 : decode cX11_walk 64 = .ok (.getfield 22, 3) := by decide +kernel
theorem dX11_walk_67 : decode cX11_walk 67 = .ok (.iconst 1, 1) := by decide +kernel
theorem dX11_walk_68 : decode cX11_walk 68 = .ok (.aload_n 0, 1) := by decide +kernel
theorem dX11_walk_69 : decode cX11_walk 69 = .ok (.iconst 0, 1) := by decide +kernel
theorem dX11_walk_70 : decode cX11_walk 70 = .ok (.bipush 20, 2) := by decide +kernel
theorem dX11_walk_72 : decode cX11_walk 72 = .ok (.invokevirtual 143, 3) := by decide +kernel
theorem dX11_walk_75 : decode cX11_walk 75 = .ok (.iastore, 1) := by decide +kernel
theorem dX11_walk_76 : decode cX11_walk 76 = .ok (.aload_n 0, 1) := by decide +kernel
theorem dX11_walk_77 : decode cX11_walk 77 = .ok (.invokevirtual 147, 3) := by decide +kernel
theorem dX11_walk_80 : decode cX11_walk 80 = .ok (.aload_n 0, 1) := by decide +kernel
theorem dX11_walk_81 : decode cX11_walk 81 = .ok (.invokevirtual 150, 3) := by decide +kernel
theorem dX11_walk_84 : decode cX11_walk 84 = .ok (.ldc2_w 163, 3) := by decide +kernel
theorem dX11_walk_87 : decode cX11_walk 87 = .ok (.lcmp, 1) := by decide +kernel
theorem dX11_walk_88 : decode cX11_walk 88 = .ok (.ifCond .ne 10, 3) := by decide +kernel
theorem dX11_walk_91 : decode cX11_walk 91 = .ok (.aload_n 0, 1) := by decide +kernel
theorem dX11_walk_92 : decode cX11_walk 92 = .ok (.invokevirtual 165, 3) := by decide +kernel
theorem dX11_walk_95 : decode cX11_walk 95 = .ok (.goto (-15), 3) := by decide +kernel
theorem dX11_walk_98 : decode cX11_walk 98 = .ok (.aload_n 0, 1) := by decide +kernel
theorem dX11_walk_99 : decode cX11_walk 99 = .ok (.invokevirtual 150, 3) := by decide +kernel
theorem dX11_walk_102 : decode cX11_walk 102 = .ok (.ldc2_w 168, 3) := by decide +kernel
theorem dX11_walk_105 : decode cX11_walk 105 = .ok (.lcmp, 1) := by decide +kernel
theorem dX11_walk_106 : decode cX11_walk 106 = .ok (.ifCond .ne 10, 3) := by decide +kernel
theorem dX11_walk_109 : decode cX11_walk 109 = .ok (.aload_n 0, 1) := by decide +kernel
theorem dX11_walk_110 : decode cX11_walk 110 = .ok (.invokevirtual 170, 3) := by decide +kernel
theorem dX11_walk_113 : decode cX11_walk 113 = .ok (.goto (-15), 3) := by decide +kernel
theorem dX11_walk_116 : decode cX11_walk 116 = .ok (.aload_n 0, 1) := by decide +kernel
theorem dX11_walk_117 : decode cX11_walk 117 = .ok (.getfield 108, 3) := by decide +kernel
theorem dX11_walk_120 : decode cX11_walk 120 = .ok (.ifCond .ne 16, 3) := by decide +kernel
theorem dX11_walk_123 : decode cX11_walk 123 = .ok (.aload_n 0, 1) := by decide +kernel
theorem dX11_walk_124 : decode cX11_walk 124 = .ok (.getfield 96, 3) := by decide +kernel
theorem dX11_walk_127 : decode cX11_walk 127 = .ok (.iconst 1, 1) := by decide +kernel
theorem dX11_walk_128 : decode cX11_walk 128 = .ok (.if_icmp .eq 8, 3) := by decide +kernel
theorem dX11_walk_131 : decode cX11_walk 131 = .ok (.aload_n 0, 1) := by decide +kernel
theorem dX11_walk_132 : decode cX11_walk 132 = .ok (.iconst 1, 1) := by decide +kernel
theorem dX11_walk_133 : decode cX11_walk 133 = .ok (.invokevirtual 117, 3) := by decide +kernel
theorem dX11_walk_136 : decode cX11_walk 136 = .ok (.aload_n 0, 1) := by decide +kernel
theorem dX11_walk_137 : decode cX11_walk 137 = .ok (.getfield 108, 3) := by decide +kernel
theorem dX11_walk_140 : decode cX11_walk 140 = .ok (.ifCond .le 19, 3) := by decide +kernel
theorem dX11_walk_143 : decode cX11_walk 143 = .ok (.aload_n 0, 1) := by decide +kernel
theorem dX11_walk_144 : decode cX11_walk 144 = .ok (.aload_n 0, 1) := by decide +kernel
theorem dX11_walk_145 : decode cX11_walk 145 = .ok (.getfield 108, 3) := by decide +kernel
theorem dX11_walk_148 : decode cX11_walk 148 = .ok (.putfield 173, 3) := by decide +kernel
theorem dX11_walk_151 : decode cX11_walk 151 = .ok (.ldc 176, 2) := by decide +kernel
theorem dX11_walk_153 : decode cX11_walk 153 = .ok (.aload_n 0, 1) := by decide +kernel
theorem dX11_walk_154 : decode cX11_walk 154 = .ok (.getfield 114, 3) := by decide +kernel
theorem dX11_walk_157 : decode cX11_walk 157 = .ok (.isub, 1) := by decide +kernel
theorem dX11_walk_158 : decode cX11_walk 158 = .ok (.ireturn, 1) := by decide +kernel
theorem dX11_walk_159 : decode cX11_walk 159 = .ok (.aload_n 0, 1) := by decide +kernel
theorem dX11_walk_160 : decode cX11_walk 160 = .ok (.iconst 1, 1) := by decide +kernel
theorem dX11_walk_161 : decode cX11_walk 161 = .ok (.putfield 177, 3) := by decide +kernel
theorem dX11_walk_164 : decode cX11_walk 164 = .ok (.aload_n 0, 1) := by decide +kernel
theorem dX11_walk_165 : decode cX11_walk 165 = .ok (.iconst 0, 1) := by decide +kernel
theorem dX11_walk_166 : decode cX11_walk 166 = .ok (.putfield 181, 3) := by decide +kernel
theorem dX11_walk_169 : decode cX11_walk 169 = .ok (.iconst 0, 1) := by decide +kernel
theorem dX11_walk_170 : decode cX11_walk 170 = .ok (.istore_n 1, 1) := by decide +kernel
theorem dX11_walk_171 : decode cX11_walk 171 = .ok (.iload_n 1, 1) := by decide +kernel
theorem dX11_walk_172 : decode cX11_walk 172 = .ok (.bipush 77, 2) := by decide +kernel
theorem dX11_walk_174 : decode cX11_walk 174 = .ok (.if_icmp .ge 21, 3) := by decide +kernel
theorem dX11_walk_177 : decode cX11_walk 177 = .ok (.aload_n 0, 1) := by decide +kernel
theorem dX11_walk_178 : decode cX11_walk 178 = .ok (.getfield 19, 3) := by decide +kernel
theorem dX11_walk_181 : decode cX11_walk 181 = .ok (.iload_n 1, 1) := by decide +kernel
theorem dX11_walk_182 : decode cX11_walk 182 = .ok (.aload_n 0, 1) := by decide +kernel
theorem dX11_walk_183 : decode cX11_walk 183 = .ok (.getfield 22, 3) := by decide +kernel
theorem dX11_walk_186 : decode cX11_walk 186 = .ok (.iload_n 1, 1) := by decide +kernel
theorem dX11_walk_187 : decode cX11_walk 187 = .ok (.iaload, 1) := by decide +kernel
theorem dX11_walk_188 : decode cX11_walk 188 = .ok (.iastore, 1) := by decide +kernel
theorem dX11_walk_189 : decode cX11_walk 189 = .ok (.iinc 1 1, 3) := by decide +kernel
theorem dX11_walk_192 : decode cX11_walk 192 = .ok (.goto (-21), 3) := by decide +kernel
theorem dX11_walk_195 : decode cX11_walk 195 = .ok (.aload_n 0, 1) := by decide +kernel
theorem dX11_walk_196 : decode cX11_walk 196 = .ok (.getfield 19, 3) := by decide +kernel
theorem dX11_walk_199 : decode cX11_walk 199 = .ok (.iconst 3, 1) := by decide +kernel
theorem dX11_walk_200 : decode cX11_walk 200 = .ok (.iaload, 1) := by decide +kernel
theorem dX11_walk_201 : decode cX11_walk 201 = .ok (.ireturn, 1) := by decide +kernel
theorem dX11_fault_0 : decode cX11_fault 0 = .ok (.aload_n 0, 1) := by decide +kernel
theorem dX11_fault_1 : decode cX11_fault 1 = .ok (.iconst 0, 1) := by decide +kernel
theorem dX11_fault_2 : decode cX11_fault 2 = .ok (.putfield 50, 3) := by decide +kernel
theorem dX11_fault_5 : decode cX11_fault 5 = .ok (.aload_n 0, 1) := by decide +kernel
theorem dX11_fault_6 : decode cX11_fault 6 = .ok (.getfield 173, 3) := by decide +kernel
theorem dX11_fault_9 : decode cX11_fault 9 = .ok (.ireturn, 1) := by decide +kernel
theorem dX11_isYarn_0 : decode cX11_isYarn 0 = .ok (.iload_n 1, 1) := by decide +kernel
theorem dX11_isYarn_1 : decode cX11_isYarn 1 = .ok (.i2l, 1) := by decide +kernel
theorem dX11_isYarn_2 : decode cX11_isYarn 2 = .ok (.lconst 0, 1) := by decide +kernel
theorem dX11_isYarn_3 : decode cX11_isYarn 3 = .ok (.aload_n 0, 1) := by decide +kernel
theorem dX11_isYarn_4 : decode cX11_isYarn 4 = .ok (.getfield 19, 3) := by decide +kernel
theorem dX11_isYarn_7 : decode cX11_isYarn 7 = .ok (.iconst 3, 1) := by decide +kernel
theorem dX11_isYarn_8 : decode cX11_isYarn 8 = .ok (.iaload, 1) := by decide +kernel
theorem dX11_isYarn_9 : decode cX11_isYarn 9 = .ok (.iconst 1, 1) := by decide +kernel
theorem dX11_isYarn_10 : decode cX11_isYarn 10 = .ok (.isub, 1) := by decide +kernel
theorem dX11_isYarn_11 : decode cX11_isYarn 11 = .ok (.i2l, 1) := by decide +kernel
theorem dX11_isYarn_12 : decode cX11_isYarn 12 = .ok (.invokestatic 60, 3) := by decide +kernel
theorem dX11_isYarn_15 : decode cX11_isYarn 15 = .ok (.ireturn, 1) := by decide +kernel
theorem dX11_isSpeaker_0 : decode cX11_isSpeaker 0 = .ok (.iload_n 1, 1) := by decide +kernel
theorem dX11_isSpeaker_1 : decode cX11_isSpeaker 1 = .ok (.i2l, 1) := by decide +kernel
theorem dX11_isSpeaker_2 : decode cX11_isSpeaker 2 = .ok (.lconst 0, 1) := by decide +kernel
theorem dX11_isSpeaker_3 : decode cX11_isSpeaker 3 = .ok (.aload_n 0, 1) := by decide +kernel
theorem dX11_isSpeaker_4 : decode cX11_isSpeaker 4 = .ok (.getfield 19, 3) := by decide +kernel
theorem dX11_isSpeaker_7 : decode cX11_isSpeaker 7 = .ok (.iconst 2, 1) := by decide +kernel
theorem dX11_isSpeaker_8 : decode cX11_isSpeaker 8 = .ok (.iaload, 1) := by decide +kernel
theorem dX11_isSpeaker_9 : decode cX11_isSpeaker 9 = .ok (.iconst 1, 1) := by decide +kernel
theorem dX11_isSpeaker_10 : decode cX11_isSpeaker 10 = .ok (.isub, 1) := by decide +kernel
theorem dX11_isSpeaker_11 : decode cX11_isSpeaker 11 = .ok (.i2l, 1) := by decide +kernel
theorem dX11_isSpeaker_12 : decode cX11_isSpeaker 12 = .ok (.invokestatic 60, 3) := by decide +kernel
theorem dX11_isSpeaker_15 : decode cX11_isSpeaker 15 = .ok (.ireturn, 1) := by decide +kernel
theorem dX11_isSeed_0 : decode cX11_isSeed 0 = .ok (.iload_n 0, 1) := by decide +kernel
theorem dX11_isSeed_1 : decode cX11_isSeed 1 = .ok (.i2l, 1) := by decide +kernel
theorem dX11_isSeed_2 : decode cX11_isSeed 2 = .ok (.lconst 1, 1) := by decide +kernel
theorem dX11_isSeed_3 : decode cX11_isSeed 3 = .ok (.ldc2_w 184, 3) := by decide +kernel
theorem dX11_isSeed_6 : decode cX11_isSeed 6 = .ok (.invokestatic 60, 3) := by decide +kernel
theorem dX11_isSeed_9 : decode cX11_isSeed 9 = .ok (.ireturn, 1) := by decide +kernel
theorem dX11_isLoad_0 : decode cX11_isLoad 0 = .ok (.iload_n 0, 1) := by decide +kernel
theorem dX11_isLoad_1 : decode cX11_isLoad 1 = .ok (.i2l, 1) := by decide +kernel
theorem dX11_isLoad_2 : decode cX11_isLoad 2 = .ok (.lconst 0, 1) := by decide +kernel
theorem dX11_isLoad_3 : decode cX11_isLoad 3 = .ok (.ldc2_w 186, 3) := by decide +kernel
theorem dX11_isLoad_6 : decode cX11_isLoad 6 = .ok (.invokestatic 60, 3) := by decide +kernel
theorem dX11_isLoad_9 : decode cX11_isLoad 9 = .ok (.ireturn, 1) := by decide +kernel
theorem dX11_of_0 : decode cX11_of 0 = .ok (.aload_n 0, 1) := by decide +kernel
theorem dX11_of_1 : decode cX11_of 1 = .ok (.getfield 19, 3) := by decide +kernel
theorem dX11_of_4 : decode cX11_of 4 = .ok (.bipush 14, 2) := by decide +kernel
theorem dX11_of_6 : decode cX11_of 6 = .ok (.bipush 7, 2) := by decide +kernel
theorem dX11_of_8 : decode cX11_of 8 = .ok (.iload_n 1, 1) := by decide +kernel
theorem dX11_of_9 : decode cX11_of 9 = .ok (.imul, 1) := by decide +kernel
theorem dX11_of_10 : decode cX11_of 10 = .ok (.iadd, 1) := by decide +kernel
theorem dX11_of_11 : decode cX11_of 11 = .ok (.iload_n 2, 1) := by decide +kernel
theorem dX11_of_12 : decode cX11_of 12 = .ok (.iadd, 1) := by decide +kernel
theorem dX11_of_13 : decode cX11_of 13 = .ok (.iaload, 1) := by decide +kernel
theorem dX11_of_14 : decode cX11_of 14 = .ok (.ireturn, 1) := by decide +kernel
theorem dX11_becomes_0 : decode cX11_becomes 0 = .ok (.aload_n 0, 1) := by decide +kernel
theorem dX11_becomes_1 : decode cX11_becomes 1 = .ok (.getfield 19, 3) := by decide +kernel
theorem dX11_becomes_4 : decode cX11_becomes 4 = .ok (.bipush 14, 2) := by decide +kernel
theorem dX11_becomes_6 : decode cX11_becomes 6 = .ok (.bipush 7, 2) := by decide +kernel
theorem dX11_becomes_8 : decode cX11_becomes 8 = .ok (.iload_n 1, 1) := by decide +kernel
theorem dX11_becomes_9 : decode cX11_becomes 9 = .ok (.imul, 1) := by decide +kernel
theorem dX11_becomes_10 : decode cX11_becomes 10 = .ok (.iadd, 1) := by decide +kernel
theorem dX11_becomes_11 : decode cX11_becomes 11 = .ok (.iload_n 2, 1) := by decide +kernel
theorem dX11_becomes_12 : decode cX11_becomes 12 = .ok (.iadd, 1) := by decide +kernel
theorem dX11_becomes_13 : decode cX11_becomes 13 = .ok (.iload_n 3, 1) := by decide +kernel
theorem dX11_becomes_14 : decode cX11_becomes 14 = .ok (.iastore, 1) := by decide +kernel
theorem dX11_becomes_15 : decode cX11_becomes 15 = .ok (.return_, 1) := by decide +kernel
theorem dX11_truthOf_0 : decode cX11_truthOf 0 = .ok (.aload_n 0, 1) := by decide +kernel
theorem dX11_truthOf_1 : decode cX11_truthOf 1 = .ok (.getfield 19, 3) := by decide +kernel
theorem dX11_truthOf_4 : decode cX11_truthOf 4 = .ok (.iconst 4, 1) := by decide +kernel
theorem dX11_truthOf_5 : decode cX11_truthOf 5 = .ok (.iconst 2, 1) := by decide +kernel
theorem dX11_truthOf_6 : decode cX11_truthOf 6 = .ok (.aload_n 0, 1) := by decide +kernel
theorem dX11_truthOf_7 : decode cX11_truthOf 7 = .ok (.iload_n 1, 1) := by decide +kernel
theorem dX11_truthOf_8 : decode cX11_truthOf 8 = .ok (.iconst 1, 1) := by decide +kernel
theorem dX11_truthOf_9 : decode cX11_truthOf 9 = .ok (.invokevirtual 188, 3) := by decide +kernel
theorem dX11_truthOf_12 : decode cX11_truthOf 12 = .ok (.imul, 1) := by decide +kernel
theorem dX11_truthOf_13 : decode cX11_truthOf 13 = .ok (.iadd, 1) := by decide +kernel
theorem dX11_truthOf_14 : decode cX11_truthOf 14 = .ok (.iaload, 1) := by decide +kernel
theorem dX11_truthOf_15 : decode cX11_truthOf 15 = .ok (.ireturn, 1) := by decide +kernel
theorem dX11_priceOf_0 : decode cX11_priceOf 0 = .ok (.aload_n 0, 1) := by decide +kernel
theorem dX11_priceOf_1 : decode cX11_priceOf 1 = .ok (.getfield 19, 3) := by decide +kernel
theorem dX11_priceOf_4 : decode cX11_priceOf 4 = .ok (.iconst 4, 1) := by decide +kernel
theorem dX11_priceOf_5 : decode cX11_priceOf 5 = .ok (.iconst 2, 1) := by decide +kernel
theorem dX11_priceOf_6 : decode cX11_priceOf 6 = .ok (.aload_n 0, 1) := by decide +kernel
theorem dX11_priceOf_7 : decode cX11_priceOf 7 = .ok (.iload_n 1, 1) := by decide +kernel
theorem dX11_priceOf_8 : decode cX11_priceOf 8 = .ok (.iconst 1, 1) := by decide +kernel
theorem dX11_priceOf_9 : decode cX11_priceOf 9 = .ok (.invokevirtual 188, 3) := by decide +kernel
theorem dX11_priceOf_12 : decode cX11_priceOf 12 = .ok (.imul, 1) := by decide +kernel
theorem dX11_priceOf_13 : decode cX11_priceOf 13 = .ok (.iadd, 1) := by decide +kernel
theorem dX11_priceOf_14 : decode cX11_priceOf 14 = .ok (.iconst 1, 1) := by decide +kernel
theorem dX11_priceOf_15 : decode cX11_priceOf 15 = .ok (.iadd, 1) := by decide +kernel
theorem dX11_priceOf_16 : decode cX11_priceOf 16 = .ok (.iaload, 1) := by decide +kernel
theorem dX11_priceOf_17 : decode cX11_priceOf 17 = .ok (.ireturn, 1) := by decide +kernel
theorem dX11_strengthBy_0 : decode cX11_strengthBy 0 = .ok (.aload_n 0, 1) := by decide +kernel
theorem dX11_strengthBy_1 : decode cX11_strengthBy 1 = .ok (.iload_n 1, 1) := by decide +kernel
theorem dX11_strengthBy_2 : decode cX11_strengthBy 2 = .ok (.iconst 0, 1) := by decide +kernel
theorem dX11_strengthBy_3 : decode cX11_strengthBy 3 = .ok (.invokevirtual 188, 3) := by decide +kernel
theorem dX11_strengthBy_6 : decode cX11_strengthBy 6 = .ok (.istore_n 3, 1) := by decide +kernel
theorem dX11_strengthBy_7 : decode cX11_strengthBy 7 = .ok (.aload_n 0, 1) := by decide +kernel
theorem dX11_strengthBy_8 : decode cX11_strengthBy 8 = .ok (.getfield 19, 3) := by decide +kernel
theorem dX11_strengthBy_11 : decode cX11_strengthBy 11 = .ok (.iconst 0, 1) := by decide +kernel
theorem dX11_strengthBy_12 : decode cX11_strengthBy 12 = .ok (.iaload, 1) := by decide +kernel
theorem dX11_strengthBy_13 : decode cX11_strengthBy 13 = .ok (.aload_n 0, 1) := by decide +kernel
theorem dX11_strengthBy_14 : decode cX11_strengthBy 14 = .ok (.iload_n 1, 1) := by decide +kernel
theorem dX11_strengthBy_15 : decode cX11_strengthBy 15 = .ok (.iconst 2, 1) := by decide +kernel
theorem dX11_strengthBy_16 : decode cX11_strengthBy 16 = .ok (.invokevirtual 188, 3) := by decide +kernel
theorem dX11_strengthBy_19 : decode cX11_strengthBy 19 = .ok (.imul, 1) := by decide +kernel
theorem dX11_strengthBy_20 : decode cX11_strengthBy 20 = .ok (.istore 4, 2) := by decide +kernel
theorem dX11_strengthBy_22 : decode cX11_strengthBy 22 = .ok (.iload_n 3, 1) := by decide +kernel
theorem dX11_strengthBy_23 : decode cX11_strengthBy 23 = .ok (.iconst 2, 1) := by decide +kernel
theorem dX11_strengthBy_24 : decode cX11_strengthBy 24 = .ok (.if_icmp .eq 8, 3) := by decide +kernel
theorem dX11_strengthBy_27 : decode cX11_strengthBy 27 = .ok (.iload_n 3, 1) := by decide +kernel
theorem dX11_strengthBy_28 : decode cX11_strengthBy 28 = .ok (.iconst 3, 1) := by decide +kernel
theorem dX11_strengthBy_29 : decode cX11_strengthBy 29 = .ok (.if_icmp .ne 13, 3) := by decide +kernel
theorem dX11_strengthBy_32 : decode cX11_strengthBy 32 = .ok (.iload 4, 2) := by decide +kernel
theorem dX11_strengthBy_34 : decode cX11_strengthBy 34 = .ok (.iload 4, 2) := by decide +kernel
theorem dX11_strengthBy_36 : decode cX11_strengthBy 36 = .ok (.iconst 2, 1) := by decide +kernel
theorem dX11_strengthBy_37 : decode cX11_strengthBy 37 = .ok (.idiv, 1) := by decide +kernel
theorem dX11_strengthBy_38 : decode cX11_strengthBy 38 = .ok (.iadd, 1) := by decide +kernel
theorem dX11_strengthBy_39 : decode cX11_strengthBy 39 = .ok (.goto 17, 3) := by decide +kernel
theorem dX11_strengthBy_42 : decode cX11_strengthBy 42 = .ok (.iload_n 3, 1) := by decide +kernel
theorem dX11_strengthBy_43 : decode cX11_strengthBy 43 = .ok (.iconst 1, 1) := by decide +kernel
theorem dX11_strengthBy_44 : decode cX11_strengthBy 44 = .ok (.if_icmp .ne 8, 3) := by decide +kernel
theorem dX11_strengthBy_47 : decode cX11_strengthBy 47 = .ok (.iload 4, 2) := by decide +kernel
theorem dX11_strengthBy_49 : decode cX11_strengthBy 49 = .ok (.goto 7, 3) := by decide +kernel
theorem dX11_strengthBy_52 : decode cX11_strengthBy 52 = .ok (.iload 4, 2) := by decide +kernel
theorem dX11_strengthBy_54 : decode cX11_strengthBy 54 = .ok (.iconst 2, 1) := by decide +kernel
theorem dX11_strengthBy_55 : decode cX11_strengthBy 55 = .ok (.idiv, 1) := by decide +kernel
theorem dX11_strengthBy_56 : decode cX11_strengthBy 56 = .ok (.istore 4, 2) := by decide +kernel
theorem dX11_strengthBy_58 : decode cX11_strengthBy 58 = .ok (.iload 4, 2) := by decide +kernel
theorem dX11_strengthBy_60 : decode cX11_strengthBy 60 = .ok (.iload_n 3, 1) := by decide +kernel
theorem dX11_strengthBy_61 : decode cX11_strengthBy 61 = .ok (.iconst 3, 1) := by decide +kernel
theorem dX11_strengthBy_62 : decode cX11_strengthBy 62 = .ok (.if_icmp .ne 11, 3) := by decide +kernel
theorem dX11_strengthBy_65 : decode cX11_strengthBy 65 = .ok (.aload_n 0, 1) := by decide +kernel
theorem dX11_strengthBy_66 : decode cX11_strengthBy 66 = .ok (.iload_n 1, 1) := by decide +kernel
theorem dX11_strengthBy_67 : decode cX11_strengthBy 67 = .ok (.invokevirtual 191, 3) := by decide +kernel
theorem dX11_strengthBy_70 : decode cX11_strengthBy 70 = .ok (.goto 4, 3) := by decide +kernel
theorem dX11_strengthBy_73 : decode cX11_strengthBy 73 = .ok (.iconst 0, 1) := by decide +kernel
theorem dX11_strengthBy_74 : decode cX11_strengthBy 74 = .ok (.iadd, 1) := by decide +kernel
theorem dX11_strengthBy_75 : decode cX11_strengthBy 75 = .ok (.istore 4, 2) := by decide +kernel
theorem dX11_strengthBy_77 : decode cX11_strengthBy 77 = .ok (.iload 4, 2) := by decide +kernel
theorem dX11_strengthBy_79 : decode cX11_strengthBy 79 = .ok (.aload_n 0, 1) := by decide +kernel
theorem dX11_strengthBy_80 : decode cX11_strengthBy 80 = .ok (.iload_n 1, 1) := by decide +kernel
theorem dX11_strengthBy_81 : decode cX11_strengthBy 81 = .ok (.bipush 6, 2) := by decide +kernel
theorem dX11_strengthBy_83 : decode cX11_strengthBy 83 = .ok (.invokevirtual 188, 3) := by decide +kernel
theorem dX11_strengthBy_86 : decode cX11_strengthBy 86 = .ok (.iconst 1, 1) := by decide +kernel
theorem dX11_strengthBy_87 : decode cX11_strengthBy 87 = .ok (.if_icmp .ne 12, 3) := by decide +kernel
theorem dX11_strengthBy_90 : decode cX11_strengthBy 90 = .ok (.aload_n 0, 1) := by decide +kernel
theorem dX11_strengthBy_91 : decode cX11_strengthBy 91 = .ok (.getfield 19, 3) := by decide +kernel
theorem dX11_strengthBy_94 : decode cX11_strengthBy 94 = .ok (.iconst 1, 1) := by decide +kernel
theorem dX11_strengthBy_95 : decode cX11_strengthBy 95 = .ok (.iaload, 1) := by decide +kernel
theorem dX11_strengthBy_96 : decode cX11_strengthBy 96 = .ok (.goto 4, 3) := by decide +kernel
theorem dX11_strengthBy_99 : decode cX11_strengthBy 99 = .ok (.iconst 0, 1) := by decide +kernel
theorem dX11_strengthBy_100 : decode cX11_strengthBy 100 = .ok (.iadd, 1) := by decide +kernel
theorem dX11_strengthBy_101 : decode cX11_strengthBy 101 = .ok (.istore 4, 2) := by decide +kernel
theorem dX11_strengthBy_103 : decode cX11_strengthBy 103 = .ok (.iload_n 2, 1) := by decide +kernel
theorem dX11_strengthBy_104 : decode cX11_strengthBy 104 = .ok (.iconst 1, 1) := by decide +kernel
theorem dX11_strengthBy_105 : decode cX11_strengthBy 105 = .ok (.if_icmp .ne 13, 3) := by decide +kernel
theorem dX11_strengthBy_108 : decode cX11_strengthBy 108 = .ok (.iload 4, 2) := by decide +kernel
theorem dX11_strengthBy_110 : decode cX11_strengthBy 110 = .ok (.iload 4, 2) := by decide +kernel
theorem dX11_strengthBy_112 : decode cX11_strengthBy 112 = .ok (.iconst 2, 1) := by decide +kernel
theorem dX11_strengthBy_113 : decode cX11_strengthBy 113 = .ok (.idiv, 1) := by decide +kernel
theorem dX11_strengthBy_114 : decode cX11_strengthBy 114 = .ok (.iadd, 1) := by decide +kernel
theorem dX11_strengthBy_115 : decode cX11_strengthBy 115 = .ok (.goto 5, 3) := by decide +kernel
theorem dX11_strengthBy_118 : decode cX11_strengthBy 118 = .ok (.iload 4, 2) := by decide +kernel
theorem dX11_strengthBy_120 : decode cX11_strengthBy 120 = .ok (.istore 4, 2) := by decide +kernel
theorem dX11_strengthBy_122 : decode cX11_strengthBy 122 = .ok (.iload 4, 2) := by decide +kernel
theorem dX11_strengthBy_124 : decode cX11_strengthBy 124 = .ok (.aload_n 0, 1) := by decide +kernel
theorem dX11_strengthBy_125 : decode cX11_strengthBy 125 = .ok (.iload_n 1, 1) := by decide +kernel
theorem dX11_strengthBy_126 : decode cX11_strengthBy 126 = .ok (.iconst 5, 1) := by decide +kernel
theorem dX11_strengthBy_127 : decode cX11_strengthBy 127 = .ok (.invokevirtual 188, 3) := by decide +kernel
theorem dX11_strengthBy_130 : decode cX11_strengthBy 130 = .ok (.if_icmp .ge 7, 3) := by decide +kernel
theorem dX11_strengthBy_133 : decode cX11_strengthBy 133 = .ok (.iconst 0, 1) := by decide +kernel
theorem dX11_strengthBy_134 : decode cX11_strengthBy 134 = .ok (.goto 12, 3) := by decide +kernel
theorem dX11_strengthBy_137 : decode cX11_strengthBy 137 = .ok (.iload 4, 2) := by decide +kernel
theorem dX11_strengthBy_139 : decode cX11_strengthBy 139 = .ok (.aload_n 0, 1) := by decide +kernel
theorem dX11_strengthBy_140 : decode cX11_strengthBy 140 = .ok (.iload_n 1, 1) := by decide +kernel
theorem dX11_strengthBy_141 : decode cX11_strengthBy 141 = .ok (.iconst 5, 1) := by decide +kernel
theorem dX11_strengthBy_142 : decode cX11_strengthBy 142 = .ok (.invokevirtual 188, 3) := by decide +kernel
theorem dX11_strengthBy_145 : decode cX11_strengthBy 145 = .ok (.isub, 1) := by decide +kernel
theorem dX11_strengthBy_146 : decode cX11_strengthBy 146 = .ok (.istore 4, 2) := by decide +kernel
theorem dX11_strengthBy_148 : decode cX11_strengthBy 148 = .ok (.iload_n 2, 1) := by decide +kernel
theorem dX11_strengthBy_149 : decode cX11_strengthBy 149 = .ok (.iconst 2, 1) := by decide +kernel
theorem dX11_strengthBy_150 : decode cX11_strengthBy 150 = .ok (.if_icmp .ne 7, 3) := by decide +kernel
theorem dX11_strengthBy_153 : decode cX11_strengthBy 153 = .ok (.iconst 0, 1) := by decide +kernel
theorem dX11_strengthBy_154 : decode cX11_strengthBy 154 = .ok (.goto 5, 3) := by decide +kernel
theorem dX11_strengthBy_157 : decode cX11_strengthBy 157 = .ok (.iload 4, 2) := by decide +kernel
theorem dX11_strengthBy_159 : decode cX11_strengthBy 159 = .ok (.ireturn, 1) := by decide +kernel
theorem dX11_strength_0 : decode cX11_strength 0 = .ok (.aload_n 0, 1) := by decide +kernel
theorem dX11_strength_1 : decode cX11_strength 1 = .ok (.iload_n 1, 1) := by decide +kernel
theorem dX11_strength_2 : decode cX11_strength 2 = .ok (.aload_n 0, 1) := by decide +kernel
theorem dX11_strength_3 : decode cX11_strength 3 = .ok (.iload_n 1, 1) := by decide +kernel
theorem dX11_strength_4 : decode cX11_strength 4 = .ok (.iconst 4, 1) := by decide +kernel
theorem dX11_strength_5 : decode cX11_strength 5 = .ok (.invokevirtual 188, 3) := by decide +kernel
theorem dX11_strength_8 : decode cX11_strength 8 = .ok (.invokevirtual 194, 3) := by decide +kernel
theorem dX11_strength_11 : decode cX11_strength 11 = .ok (.ireturn, 1) := by decide +kernel
theorem dX11_noStrands_0 : decode cX11_noStrands 0 = .ok (.iconst 0, 1) := by decide +kernel
theorem dX11_noStrands_1 : decode cX11_noStrands 1 = .ok (.istore_n 1, 1) := by decide +kernel
theorem dX11_noStrands_2 : decode cX11_noStrands 2 = .ok (.iload_n 1, 1) := by decide +kernel
theorem dX11_noStrands_3 : decode cX11_noStrands 3 = .ok (.iconst 3, 1) := by decide +kernel
theorem dX11_noStrands_4 : decode cX11_noStrands 4 = .ok (.if_icmp .ge 16, 3) := by decide +kernel
theorem dX11_noStrands_7 : decode cX11_noStrands 7 = .ok (.aload_n 0, 1) := by decide +kernel
theorem dX11_noStrands_8 : decode cX11_noStrands 8 = .ok (.getfield 31, 3) := by decide +kernel
theorem dX11_noStrands_11 : decode cX11_noStrands 11 = .ok (.iload_n 1, 1) := by decide +kernel
theorem dX11_noStrands_12 : decode cX11_noStrands 12 = .ok (.iconst 0, 1) := by decide +kernel
theorem dX11_noStrands_13 : decode cX11_noStrands 13 = .ok (.iastore, 1) := by decide +kernel
theorem dX11_noStrands_14 : decode cX11_noStrands 14 = .ok (.iinc 1 1, 3) := by decide +kernel
theorem dX11_noStrands_17 : decode cX11_noStrands 17 = .ok (.goto (-15), 3) := by decide +kernel
theorem dX11_noStrands_20 : decode cX11_noStrands 20 = .ok (.return_, 1) := by decide +kernel
theorem dX11_layStrands_0 : decode cX11_layStrands 0 = .ok (.aload_n 0, 1) := by decide +kernel
theorem dX11_layStrands_1 : decode cX11_layStrands 1 = .ok (.invokevirtual 197, 3) := by decide +kernel
theorem dX11_layStrands_4 : decode cX11_layStrands 4 = .ok (.iconst 0, 1) := by decide +kernel
theorem dX11_layStrands_5 : decode cX11_layStrands 5 = .ok (.istore_n 1, 1) := by decide +kernel
theorem dX11_layStrands_6 : decode cX11_layStrands 6 = .ok (.iload_n 1, 1) := by decide +kernel
theorem dX11_layStrands_7 : decode cX11_layStrands 7 = .ok (.aload_n 0, 1) := by decide +kernel
theorem dX11_layStrands_8 : decode cX11_layStrands 8 = .ok (.getfield 19, 3) := by decide +kernel
theorem dX11_layStrands_11 : decode cX11_layStrands 11 = .ok (.iconst 3, 1) := by decide +kernel
theorem dX11_layStrands_12 : decode cX11_layStrands 12 = .ok (.iaload, 1) := by decide +kernel
theorem dX11_layStrands_13 : decode cX11_layStrands 13 = .ok (.if_icmp .ge 37, 3) := by decide +kernel
theorem dX11_layStrands_16 : decode cX11_layStrands 16 = .ok (.aload_n 0, 1) := by decide +kernel
theorem dX11_layStrands_17 : decode cX11_layStrands 17 = .ok (.iload_n 1, 1) := by decide +kernel
theorem dX11_layStrands_18 : decode cX11_layStrands 18 = .ok (.iconst 3, 1) := by decide +kernel
theorem dX11_layStrands_19 : decode cX11_layStrands 19 = .ok (.invokevirtual 188, 3) := by decide +kernel
theorem dX11_layStrands_22 : decode cX11_layStrands 22 = .ok (.ifCond .lt 22, 3) := by decide +kernel
theorem dX11_layStrands_25 : decode cX11_layStrands 25 = .ok (.aload_n 0, 1) := by decide +kernel
theorem dX11_layStrands_26 : decode cX11_layStrands 26 = .ok (.getfield 31, 3) := by decide +kernel
theorem dX11_layStrands_29 : decode cX11_layStrands 29 = .ok (.aload_n 0, 1) := by decide +kernel
theorem dX11_layStrands_30 : decode cX11_layStrands 30 = .ok (.iload_n 1, 1) := by decide +kernel
theorem dX11_layStrands_31 : decode cX11_layStrands 31 = .ok (.iconst 3, 1) := by decide +kernel
theorem dX11_layStrands_32 : decode cX11_layStrands 32 = .ok (.invokevirtual 188, 3) := by decide +kernel
theorem dX11_layStrands_35 : decode cX11_layStrands 35 = .ok (.dup2, 1) := by decide +kernel
theorem dX11_layStrands_36 : decode cX11_layStrands 36 = .ok (.iaload, 1) := by decide +kernel
theorem dX11_layStrands_37 : decode cX11_layStrands 37 = .ok (.aload_n 0, 1) := by decide +kernel
theorem dX11_layStrands_38 : decode cX11_layStrands 38 = .ok (.iload_n 1, 1) := by decide +kernel
theorem dX11_layStrands_39 : decode cX11_layStrands 39 = .ok (.invokevirtual 200, 3) := by decide +kernel
theorem dX11_layStrands_42 : decode cX11_layStrands 42 = .ok (.iadd, 1) := by decide +kernel
theorem dX11_layStrands_43 : decode cX11_layStrands 43 = .ok (.iastore, 1) := by decide +kernel
theorem dX11_layStrands_44 : decode cX11_layStrands 44 = .ok (.iinc 1 1, 3) := by decide +kernel
theorem dX11_layStrands_47 : decode cX11_layStrands 47 = .ok (.goto (-41), 3) := by decide +kernel
theorem dX11_layStrands_50 : decode cX11_layStrands 50 = .ok (.return_, 1) := by decide +kernel
theorem dX11_weakest_0 : decode cX11_weakest 0 = .ok (.iconst 0, 1) := by decide +kernel
theorem dX11_weakest_1 : decode cX11_weakest 1 = .ok (.istore_n 1, 1) := by decide +kernel
theorem dX11_weakest_2 : decode cX11_weakest 2 = .ok (.iconst 1, 1) := by decide +kernel
theorem dX11_weakest_3 : decode cX11_weakest 3 = .ok (.istore_n 2, 1) := by decide +kernel
theorem dX11_weakest_4 : decode cX11_weakest 4 = .ok (.iload_n 2, 1) := by decide +kernel
theorem dX11_weakest_5 : decode cX11_weakest 5 = .ok (.iconst 3, 1) := by decide +kernel
theorem dX11_weakest_6 : decode cX11_weakest 6 = .ok (.if_icmp .ge 30, 3) := by decide +kernel
theorem dX11_weakest_9 : decode cX11_weakest 9 = .ok (.aload_n 0, 1) := by decide +kernel
theorem dX11_weakest_10 : decode cX11_weakest 10 = .ok (.getfield 31, 3) := by decide +kernel
theorem dX11_weakest_13 : decode cX11_weakest 13 = .ok (.iload_n 2, 1) := by decide +kernel
theorem dX11_weakest_14 : decode cX11_weakest 14 = .ok (.iaload, 1) := by decide +kernel
theorem dX11_weakest_15 : decode cX11_weakest 15 = .ok (.aload_n 0, 1) := by decide +kernel
theorem dX11_weakest_16 : decode cX11_weakest 16 = .ok (.getfield 31, 3) := by decide +kernel
theorem dX11_weakest_19 : decode cX11_weakest 19 = .ok (.iload_n 1, 1) := by decide +kernel
theorem dX11_weakest_20 : decode cX11_weakest 20 = .ok (.iaload, 1) := by decide +kernel
theorem dX11_weakest_21 : decode cX11_weakest 21 = .ok (.if_icmp .ge 7, 3) := by decide +kernel
theorem dX11_weakest_24 : decode cX11_weakest 24 = .ok (.iload_n 2, 1) := by decide +kernel
theorem dX11_weakest_25 : decode cX11_weakest 25 = .ok (.goto 4, 3) := by decide +kernel
theorem dX11_weakest_28 : decode cX11_weakest 28 = .ok (.iload_n 1, 1) := by decide +kernel
theorem dX11_weakest_29 : decode cX11_weakest 29 = .ok (.istore_n 1, 1) := by decide +kernel
theorem dX11_weakest_30 : decode cX11_weakest 30 = .ok (.iinc 2 1, 3) := by decide +kernel
theorem dX11_weakest_33 : decode cX11_weakest 33 = .ok (.goto (-29), 3) := by decide +kernel
theorem dX11_weakest_36 : decode cX11_weakest 36 = .ok (.iload_n 1, 1) := by decide +kernel
theorem dX11_weakest_37 : decode cX11_weakest 37 = .ok (.ireturn, 1) := by decide +kernel
theorem dX11_ropeBears_0 : decode cX11_ropeBears 0 = .ok (.iconst 3, 1) := by decide +kernel
theorem dX11_ropeBears_1 : decode cX11_ropeBears 1 = .ok (.aload_n 0, 1) := by decide +kernel
theorem dX11_ropeBears_2 : decode cX11_ropeBears 2 = .ok (.getfield 31, 3) := by decide +kernel
theorem dX11_ropeBears_5 : decode cX11_ropeBears 5 = .ok (.aload_n 0, 1) := by decide +kernel
theorem dX11_ropeBears_6 : decode cX11_ropeBears 6 = .ok (.invokevirtual 203, 3) := by decide +kernel
theorem dX11_ropeBears_9 : decode cX11_ropeBears 9 = .ok (.iaload, 1) := by decide +kernel
theorem dX11_ropeBears_10 : decode cX11_ropeBears 10 = .ok (.imul, 1) := by decide +kernel
theorem dX11_ropeBears_11 : decode cX11_ropeBears 11 = .ok (.ireturn, 1) := by decide +kernel
theorem dX11_keep_0 : decode cX11_keep 0 = .ok (.aload_n 0, 1) := by decide +kernel
theorem dX11_keep_1 : decode cX11_keep 1 = .ok (.getfield 181, 3) := by decide +kernel
theorem dX11_keep_4 : decode cX11_keep 4 = .ok (.bipush 24, 2) := by decide +kernel
theorem dX11_keep_6 : decode cX11_keep 6 = .ok (.if_icmp .ne 43, 3) := by decide +kernel
theorem dX11_keep_9 : decode cX11_keep 9 = .ok (.iconst 0, 1) := by decide +kernel
theorem dX11_keep_10 : decode cX11_keep 10 = .ok (.istore_n 1, 1) := by decide +kernel
theorem dX11_keep_11 : decode cX11_keep 11 = .ok (.iload_n 1, 1) := by decide +kernel
theorem dX11_keep_12 : decode cX11_keep 12 = .ok (.sipush 1771, 3) := by decide +kernel
theorem dX11_keep_15 : decode cX11_keep 15 = .ok (.if_icmp .ge 24, 3) := by decide +kernel
theorem dX11_keep_18 : decode cX11_keep 18 = .ok (.aload_n 0, 1) := by decide +kernel
theorem dX11_keep_19 : decode cX11_keep 19 = .ok (.getfield 25, 3) := by decide +kernel
theorem dX11_keep_22 : decode cX11_keep 22 = .ok (.iload_n 1, 1) := by decide +kernel
theorem dX11_keep_23 : decode cX11_keep 23 = .ok (.aload_n 0, 1) := by decide +kernel
theorem dX11_keep_24 : decode cX11_keep 24 = .ok (.getfield 25, 3) := by decide +kernel
theorem dX11_keep_27 : decode cX11_keep 27 = .ok (.iload_n 1, 1) := by decide +kernel
theorem dX11_keep_28 : decode cX11_keep 28 = .ok (.bipush 77, 2) := by decide +kernel
theorem dX11_keep_30 : decode cX11_keep 30 = .ok (.iadd, 1) := by decide +kernel
theorem dX11_keep_31 : decode cX11_keep 31 = .ok (.iaload, 1) := by decide +kernel
theorem dX11_keep_32 : decode cX11_keep 32 = .ok (.iastore, 1) := by decide +kernel
theorem dX11_keep_33 : decode cX11_keep 33 = .ok (.iinc 1 1, 3) := by decide +kernel
theorem dX11_keep_36 : decode cX11_keep 36 = .ok (.goto (-25), 3) := by decide +kernel
theorem dX11_keep_39 : decode cX11_keep 39 = .ok (.aload_n 0, 1) := by decide +kernel
theorem dX11_keep_40 : decode cX11_keep 40 = .ok (.dup, 1) := by decide +kernel
theorem dX11_keep_41 : decode cX11_keep 41 = .ok (.getfield 181, 3) := by decide +kernel
theorem dX11_keep_44 : decode cX11_keep 44 = .ok (.iconst 1, 1) := by decide +kernel
theorem dX11_keep_45 : decode cX11_keep 45 = .ok (.isub, 1) := by decide +kernel
theorem dX11_keep_46 : decode cX11_keep 46 = .ok (.putfield 181, 3) := by decide +kernel
theorem dX11_keep_49 : decode cX11_keep 49 = .ok (.iconst 0, 1) := by decide +kernel
theorem dX11_keep_50 : decode cX11_keep 50 = .ok (.istore_n 1, 1) := by decide +kernel
theorem dX11_keep_51 : decode cX11_keep 51 = .ok (.iload_n 1, 1) := by decide +kernel
theorem dX11_keep_52 : decode cX11_keep 52 = .ok (.bipush 77, 2) := by decide +kernel
theorem dX11_keep_54 : decode cX11_keep 54 = .ok (.if_icmp .ge 29, 3) := by decide +kernel
theorem dX11_keep_57 : decode cX11_keep 57 = .ok (.aload_n 0, 1) := by decide +kernel
theorem dX11_keep_58 : decode cX11_keep 58 = .ok (.getfield 25, 3) := by decide +kernel
theorem dX11_keep_61 : decode cX11_keep 61 = .ok (.bipush 77, 2) := by decide +kernel
theorem dX11_keep_63 : decode cX11_keep 63 = .ok (.aload_n 0, 1) := by decide +kernel
theorem dX11_keep_64 : decode cX11_keep 64 = .ok (.getfield 181, 3) := by decide +kernel
theorem dX11_keep_67 : decode cX11_keep 67 = .ok (.imul, 1) := by decide +kernel
theorem dX11_keep_68 : decode cX11_keep 68 = .ok (.iload_n 1, 1) := by decide +kernel
theorem dX11_keep_69 : decode cX11_keep 69 = .ok (.iadd, 1) := by decide +kernel
theorem dX11_keep_70 : decode cX11_keep 70 = .ok (.aload_n 0, 1) := by decide +kernel
theorem dX11_keep_71 : decode cX11_keep 71 = .ok (.getfield 19, 3) := by decide +kernel
theorem dX11_keep_74 : decode cX11_keep 74 = .ok (.iload_n 1, 1) := by decide +kernel
theorem dX11_keep_75 : decode cX11_keep 75 = .ok (.iaload, 1) := by decide +kernel
theorem dX11_keep_76 : decode cX11_keep 76 = .ok (.iastore, 1) := by decide +kernel
theorem dX11_keep_77 : decode cX11_keep 77 = .ok (.iinc 1 1, 3) := by decide +kernel
theorem dX11_keep_80 : decode cX11_keep 80 = .ok (.goto (-29), 3) := by decide +kernel
theorem dX11_keep_83 : decode cX11_keep 83 = .ok (.aload_n 0, 1) := by decide +kernel
theorem dX11_keep_84 : decode cX11_keep 84 = .ok (.dup, 1) := by decide +kernel
theorem dX11_keep_85 : decode cX11_keep 85 = .ok (.getfield 181, 3) := by decide +kernel
theorem dX11_keep_88 : decode cX11_keep 88 = .ok (.iconst 1, 1) := by decide +kernel
theorem dX11_keep_89 : decode cX11_keep 89 = .ok (.iadd, 1) := by decide +kernel
theorem dX11_keep_90 : decode cX11_keep 90 = .ok (.putfield 181, 3) := by decide +kernel
theorem dX11_keep_93 : decode cX11_keep 93 = .ok (.return_, 1) := by decide +kernel
theorem dX11_lay_0 : decode cX11_lay 0 = .ok (.aload_n 0, 1) := by decide +kernel
theorem dX11_lay_1 : decode cX11_lay 1 = .ok (.iconst 0, 1) := by decide +kernel
theorem dX11_lay_2 : decode cX11_lay 2 = .ok (.putfield 50, 3) := by decide +kernel
theorem dX11_lay_5 : decode cX11_lay 5 = .ok (.aload_n 0, 1) := by decide +kernel
theorem dX11_lay_6 : decode cX11_lay 6 = .ok (.iload_n 1, 1) := by decide +kernel
theorem dX11_lay_7 : decode cX11_lay 7 = .ok (.invokevirtual 206, 3) := by decide +kernel
theorem dX11_lay_10 : decode cX11_lay 10 = .ok (.ifCond .eq 17, 3) := by decide +kernel
theorem dX11_lay_13 : decode cX11_lay 13 = .ok (.iload_n 2, 1) := by decide +kernel
theorem dX11_lay_14 : decode cX11_lay 14 = .ok (.i2l, 1) := by decide +kernel
theorem dX11_lay_15 : decode cX11_lay 15 = .ok (.ldc2_w 209, 3) := by decide +kernel
theorem dX11_lay_18 : decode cX11_lay 18 = .ok (.ldc2_w 68, 3) := by decide +kernel
theorem dX11_lay_21 : decode cX11_lay 21 = .ok (.invokestatic 60, 3) := by decide +kernel
theorem dX11_lay_24 : decode cX11_lay 24 = .ok (.ifCond .ne 6, 3) := by decide +kernel
theorem dX11_lay_27 : decode cX11_lay 27 = .ok (.ldc 70, 2) := by decide +kernel
theorem dX11_lay_29 : decode cX11_lay 29 = .ok (.ireturn, 1) := by decide +kernel
theorem dX11_lay_30 : decode cX11_lay 30 = .ok (.aload_n 0, 1) := by decide +kernel
theorem dX11_lay_31 : decode cX11_lay 31 = .ok (.invokevirtual 211, 3) := by decide +kernel
theorem dX11_lay_34 : decode cX11_lay 34 = .ok (.aload_n 0, 1) := by decide +kernel
theorem dX11_lay_35 : decode cX11_lay 35 = .ok (.iload_n 1, 1) := by decide +kernel
theorem dX11_lay_36 : decode cX11_lay 36 = .ok (.iconst 3, 1) := by decide +kernel
theorem dX11_lay_37 : decode cX11_lay 37 = .ok (.invokevirtual 188, 3) := by decide +kernel
theorem dX11_lay_40 : decode cX11_lay 40 = .ok (.istore_n 3, 1) := by decide +kernel
theorem dX11_lay_41 : decode cX11_lay 41 = .ok (.aload_n 0, 1) := by decide +kernel
theorem dX11_lay_42 : decode cX11_lay 42 = .ok (.iload_n 1, 1) := by decide +kernel
theorem dX11_lay_43 : decode cX11_lay 43 = .ok (.iconst 3, 1) := by decide +kernel
theorem dX11_lay_44 : decode cX11_lay 44 = .ok (.iload_n 2, 1) := by decide +kernel
theorem dX11_lay_45 : decode cX11_lay 45 = .ok (.invokevirtual 214, 3) := by decide +kernel
theorem dX11_lay_48 : decode cX11_lay 48 = .ok (.iload_n 3, 1) := by decide +kernel
theorem dX11_lay_49 : decode cX11_lay 49 = .ok (.ireturn, 1) := by decide +kernel
theorem dX11_pitch_0 : decode cX11_pitch 0 = .ok (.aload_n 0, 1) := by decide +kernel
theorem dX11_pitch_1 : decode cX11_pitch 1 = .ok (.iconst 0, 1) := by decide +kernel
theorem dX11_pitch_2 : decode cX11_pitch 2 = .ok (.putfield 50, 3) := by decide +kernel
theorem dX11_pitch_5 : decode cX11_pitch 5 = .ok (.aload_n 0, 1) := by decide +kernel
theorem dX11_pitch_6 : decode cX11_pitch 6 = .ok (.iload_n 1, 1) := by decide +kernel
theorem dX11_pitch_7 : decode cX11_pitch 7 = .ok (.invokevirtual 206, 3) := by decide +kernel
theorem dX11_pitch_10 : decode cX11_pitch 10 = .ok (.ifCond .ne 6, 3) := by decide +kernel
theorem dX11_pitch_13 : decode cX11_pitch 13 = .ok (.ldc 70, 2) := by decide +kernel
theorem dX11_pitch_15 : decode cX11_pitch 15 = .ok (.ireturn, 1) := by decide +kernel
theorem dX11_pitch_16 : decode cX11_pitch 16 = .ok (.aload_n 0, 1) := by decide +kernel
theorem dX11_pitch_17 : decode cX11_pitch 17 = .ok (.iload_n 1, 1) := by decide +kernel
theorem dX11_pitch_18 : decode cX11_pitch 18 = .ok (.bipush 6, 2) := by decide +kernel
theorem dX11_pitch_20 : decode cX11_pitch 20 = .ok (.invokevirtual 188, 3) := by decide +kernel
theorem dX11_pitch_23 : decode cX11_pitch 23 = .ok (.iconst 1, 1) := by decide +kernel
theorem dX11_pitch_24 : decode cX11_pitch 24 = .ok (.if_icmp .ne 6, 3) := by decide +kernel
theorem dX11_pitch_27 : decode cX11_pitch 27 = .ok (.ldc 218, 2) := by decide +kernel
theorem dX11_pitch_29 : decode cX11_pitch 29 = .ok (.ireturn, 1) := by decide +kernel
theorem dX11_pitch_30 : decode cX11_pitch 30 = .ok (.aload_n 0, 1) := by decide +kernel
theorem dX11_pitch_31 : decode cX11_pitch 31 = .ok (.invokevirtual 211, 3) := by decide +kernel
theorem dX11_pitch_34 : decode cX11_pitch 34 = .ok (.aload_n 0, 1) := by decide +kernel
theorem dX11_pitch_35 : decode cX11_pitch 35 = .ok (.iload_n 1, 1) := by decide +kernel
theorem dX11_pitch_36 : decode cX11_pitch 36 = .ok (.bipush 6, 2) := by decide +kernel
theorem dX11_pitch_38 : decode cX11_pitch 38 = .ok (.iconst 1, 1) := by decide +kernel
theorem dX11_pitch_39 : decode cX11_pitch 39 = .ok (.invokevirtual 214, 3) := by decide +kernel
theorem dX11_pitch_42 : decode cX11_pitch 42 = .ok (.aload_n 0, 1) := by decide +kernel
theorem dX11_pitch_43 : decode cX11_pitch 43 = .ok (.iload_n 1, 1) := by decide +kernel
theorem dX11_pitch_44 : decode cX11_pitch 44 = .ok (.invokevirtual 200, 3) := by decide +kernel
theorem dX11_pitch_47 : decode cX11_pitch 47 = .ok (.ireturn, 1) := by decide +kernel
theorem dX11_vow_0 : decode cX11_vow 0 = .ok (.aload_n 0, 1) := by decide +kernel
theorem dX11_vow_1 : decode cX11_vow 1 = .ok (.iconst 0, 1) := by decide +kernel
theorem dX11_vow_2 : decode cX11_vow 2 = .ok (.putfield 50, 3) := by decide +kernel
theorem dX11_vow_5 : decode cX11_vow 5 = .ok (.aload_n 0, 1) := by decide +kernel
theorem dX11_vow_6 : decode cX11_vow 6 = .ok (.iload_n 1, 1) := by decide +kernel
theorem dX11_vow_7 : decode cX11_vow 7 = .ok (.invokevirtual 206, 3) := by decide +kernel
theorem dX11_vow_10 : decode cX11_vow 10 = .ok (.ifCond .eq 15, 3) := by decide +kernel
theorem dX11_vow_13 : decode cX11_vow 13 = .ok (.iload_n 2, 1) := by decide +kernel
theorem dX11_vow_14 : decode cX11_vow 14 = .ok (.i2l, 1) := by decide +kernel
theorem dX11_vow_15 : decode cX11_vow 15 = .ok (.lconst 0, 1) := by decide +kernel
theorem dX11_vow_16 : decode cX11_vow 16 = .ok (.ldc2_w 68, 3) := by decide +kernel
theorem dX11_vow_19 : decode cX11_vow 19 = .ok (.invokestatic 60, 3) := by decide +kernel
theorem dX11_vow_22 : decode cX11_vow 22 = .ok (.ifCond .ne 6, 3) := by decide +kernel
theorem dX11_vow_25 : decode cX11_vow 25 = .ok (.ldc 70, 2) := by decide +kernel
theorem dX11_vow_27 : decode cX11_vow 27 = .ok (.ireturn, 1) := by decide +kernel
theorem dX11_vow_28 : decode cX11_vow 28 = .ok (.aload_n 0, 1) := by decide +kernel
theorem dX11_vow_29 : decode cX11_vow 29 = .ok (.invokevirtual 211, 3) := by decide +kernel
theorem dX11_vow_32 : decode cX11_vow 32 = .ok (.aload_n 0, 1) := by decide +kernel
theorem dX11_vow_33 : decode cX11_vow 33 = .ok (.iload_n 1, 1) := by decide +kernel
theorem dX11_vow_34 : decode cX11_vow 34 = .ok (.iconst 4, 1) := by decide +kernel
theorem dX11_vow_35 : decode cX11_vow 35 = .ok (.invokevirtual 188, 3) := by decide +kernel
theorem dX11_vow_38 : decode cX11_vow 38 = .ok (.istore_n 3, 1) := by decide +kernel
theorem dX11_vow_39 : decode cX11_vow 39 = .ok (.aload_n 0, 1) := by decide +kernel
theorem dX11_vow_40 : decode cX11_vow 40 = .ok (.iload_n 1, 1) := by decide +kernel
theorem dX11_vow_41 : decode cX11_vow 41 = .ok (.iconst 4, 1) := by decide +kernel
theorem dX11_vow_42 : decode cX11_vow 42 = .ok (.iload_n 2, 1) := by decide +kernel
theorem dX11_vow_43 : decode cX11_vow 43 = .ok (.invokevirtual 214, 3) := by decide +kernel
theorem dX11_vow_46 : decode cX11_vow 46 = .ok (.iload_n 3, 1) := by decide +kernel
theorem dX11_vow_47 : decode cX11_vow 47 = .ok (.ireturn, 1) := by decide +kernel
theorem dX11_splice_0 : decode cX11_splice 0 = .ok (.aload_n 0, 1) := by decide +kernel
theorem dX11_splice_1 : decode cX11_splice 1 = .ok (.iconst 0, 1) := by decide +kernel
theorem dX11_splice_2 : decode cX11_splice 2 = .ok (.putfield 50, 3) := by decide +kernel
theorem dX11_splice_5 : decode cX11_splice 5 = .ok (.aload_n 0, 1) := by decide +kernel
theorem dX11_splice_6 : decode cX11_splice 6 = .ok (.iload_n 1, 1) := by decide +kernel
theorem dX11_splice_7 : decode cX11_splice 7 = .ok (.invokevirtual 206, 3) := by decide +kernel
theorem dX11_splice_10 : decode cX11_splice 10 = .ok (.ifCond .ne 6, 3) := by decide +kernel
theorem dX11_splice_13 : decode cX11_splice 13 = .ok (.ldc 70, 2) := by decide +kernel
theorem dX11_splice_15 : decode cX11_splice 15 = .ok (.ireturn, 1) := by decide +kernel
theorem dX11_splice_16 : decode cX11_splice 16 = .ok (.aload_n 0, 1) := by decide +kernel
theorem dX11_splice_17 : decode cX11_splice 17 = .ok (.invokevirtual 211, 3) := by decide +kernel
theorem dX11_splice_20 : decode cX11_splice 20 = .ok (.aload_n 0, 1) := by decide +kernel
theorem dX11_splice_21 : decode cX11_splice 21 = .ok (.iload_n 1, 1) := by decide +kernel
theorem dX11_splice_22 : decode cX11_splice 22 = .ok (.iconst 5, 1) := by decide +kernel
theorem dX11_splice_23 : decode cX11_splice 23 = .ok (.invokevirtual 188, 3) := by decide +kernel
theorem dX11_splice_26 : decode cX11_splice 26 = .ok (.istore_n 2, 1) := by decide +kernel
theorem dX11_splice_27 : decode cX11_splice 27 = .ok (.aload_n 0, 1) := by decide +kernel
theorem dX11_splice_28 : decode cX11_splice 28 = .ok (.iload_n 1, 1) := by decide +kernel
theorem dX11_splice_29 : decode cX11_splice 29 = .ok (.iconst 5, 1) := by decide +kernel
theorem dX11_splice_30 : decode cX11_splice 30 = .ok (.iconst 0, 1) := by decide +kernel
theorem dX11_splice_31 : decode cX11_splice 31 = .ok (.invokevirtual 214, 3) := by decide +kernel
theorem dX11_splice_34 : decode cX11_splice 34 = .ok (.iload_n 2, 1) := by decide +kernel
theorem dX11_splice_35 : decode cX11_splice 35 = .ok (.ireturn, 1) := by decide +kernel
theorem dX11_draw_0 : decode cX11_draw 0 = .ok (.aload_n 0, 1) := by decide +kernel
theorem dX11_draw_1 : decode cX11_draw 1 = .ok (.aload_n 0, 1) := by decide +kernel
theorem dX11_draw_2 : decode cX11_draw 2 = .ok (.getfield 219, 3) := by decide +kernel
theorem dX11_draw_5 : decode cX11_draw 5 = .ok (.ldc2_w 223, 3) := by decide +kernel
theorem dX11_draw_8 : decode cX11_draw 8 = .ok (.lmul, 1) := by decide +kernel
theorem dX11_draw_9 : decode cX11_draw 9 = .ok (.ldc2_w 225, 3) := by decide +kernel
theorem dX11_draw_12 : decode cX11_draw 12 = .ok (.lrem, 1) := by decide +kernel
theorem dX11_draw_13 : decode cX11_draw 13 = .ok (.putfield 219, 3) := by decide +kernel
theorem dX11_draw_16 : decode cX11_draw 16 = .ok (.aload_n 0, 1) := by decide +kernel
theorem dX11_draw_17 : decode cX11_draw 17 = .ok (.getfield 219, 3) := by decide +kernel
theorem dX11_draw_20 : decode cX11_draw 20 = .ok (.iload_n 1, 1) := by decide +kernel
theorem dX11_draw_21 : decode cX11_draw 21 = .ok (.i2l, 1) := by decide +kernel
theorem dX11_draw_22 : decode cX11_draw 22 = .ok (.lrem, 1) := by decide +kernel
theorem dX11_draw_23 : decode cX11_draw 23 = .ok (.l2i, 1) := by decide +kernel
theorem dX11_draw_24 : decode cX11_draw 24 = .ok (.ireturn, 1) := by decide +kernel
theorem dX11_pull_0 : decode cX11_pull 0 = .ok (.aload_n 0, 1) := by decide +kernel
theorem dX11_pull_1 : decode cX11_pull 1 = .ok (.iconst 0, 1) := by decide +kernel
theorem dX11_pull_2 : decode cX11_pull 2 = .ok (.putfield 50, 3) := by decide +kernel
theorem dX11_pull_5 : decode cX11_pull 5 = .ok (.aload_n 0, 1) := by decide +kernel
theorem dX11_pull_6 : decode cX11_pull 6 = .ok (.getfield 177, 3) := by decide +kernel
theorem dX11_pull_9 : decode cX11_pull 9 = .ok (.ifCond .ne 6, 3) := by decide +kernel
theorem dX11_pull_12 : decode cX11_pull 12 = .ok (.ldc 218, 2) := by decide +kernel
theorem dX11_pull_14 : decode cX11_pull 14 = .ok (.ireturn, 1) := by decide +kernel
theorem dX11_pull_15 : decode cX11_pull 15 = .ok (.iload_n 1, 1) := by decide +kernel
theorem dX11_pull_16 : decode cX11_pull 16 = .ok (.invokestatic 227, 3) := by decide +kernel
theorem dX11_pull_19 : decode cX11_pull 19 = .ok (.ifCond .eq 10, 3) := by decide +kernel
theorem dX11_pull_22 : decode cX11_pull 22 = .ok (.iload_n 2, 1) := by decide +kernel
theorem dX11_pull_23 : decode cX11_pull 23 = .ok (.invokestatic 230, 3) := by decide +kernel
theorem dX11_pull_26 : decode cX11_pull 26 = .ok (.ifCond .ne 6, 3) := by decide +kernel
theorem dX11_pull_29 : decode cX11_pull 29 = .ok (.ldc 70, 2) := by decide +kernel
theorem dX11_pull_31 : decode cX11_pull 31 = .ok (.ireturn, 1) := by decide +kernel
theorem dX11_pull_32 : decode cX11_pull 32 = .ok (.aload_n 0, 1) := by decide +kernel
theorem dX11_pull_33 : decode cX11_pull 33 = .ok (.invokevirtual 211, 3) := by decide +kernel
theorem dX11_pull_36 : decode cX11_pull 36 = .ok (.aload_n 0, 1) := by decide +kernel
theorem dX11_pull_37 : decode cX11_pull 37 = .ok (.iload_n 2, 1) := by decide +kernel
theorem dX11_pull_38 : decode cX11_pull 38 = .ok (.i2l, 1) := by decide +kernel
theorem dX11_pull_39 : decode cX11_pull 39 = .ok (.putfield 219, 3) := by decide +kernel
theorem dX11_pull_42 : decode cX11_pull 42 = .ok (.iload_n 1, 1) := by decide +kernel
theorem dX11_pull_43 : decode cX11_pull 43 = .ok (.aload_n 0, 1) := by decide +kernel
theorem dX11_pull_44 : decode cX11_pull 44 = .ok (.bipush 10, 2) := by decide +kernel
theorem dX11_pull_46 : decode cX11_pull 46 = .ok (.invokevirtual 233, 3) := by decide +kernel
theorem dX11_pull_49 : decode cX11_pull 49 = .ok (.iadd, 1) := by decide +kernel
theorem dX11_pull_50 : decode cX11_pull 50 = .ok (.istore_n 3, 1) := by decide +kernel
theorem dX11_pull_51 : decode cX11_pull 51 = .ok (.aload_n 0, 1) := by decide +kernel
theorem dX11_pull_52 : decode cX11_pull 52 = .ok (.invokevirtual 236, 3) := by decide +kernel
theorem dX11_pull_55 : decode cX11_pull 55 = .ok (.aload_n 0, 1) := by decide +kernel
theorem dX11_pull_56 : decode cX11_pull 56 = .ok (.invokevirtual 203, 3) := by decide +kernel
theorem dX11_pull_59 : decode cX11_pull 59 = .ok (.istore 4, 2) := by decide +kernel
theorem dX11_pull_61 : decode cX11_pull 61 = .ok (.iload_n 3, 1) := by decide +kernel
theorem dX11_pull_62 : decode cX11_pull 62 = .ok (.aload_n 0, 1) := by decide +kernel
theorem dX11_pull_63 : decode cX11_pull 63 = .ok (.invokevirtual 239, 3) := by decide +kernel
theorem dX11_pull_66 : decode cX11_pull 66 = .ok (.if_icmp .le 7, 3) := by decide +kernel
theorem dX11_pull_69 : decode cX11_pull 69 = .ok (.iconst 1, 1) := by decide +kernel
theorem dX11_pull_70 : decode cX11_pull 70 = .ok (.goto 4, 3) := by decide +kernel
theorem dX11_pull_73 : decode cX11_pull 73 = .ok (.iconst 0, 1) := by decide +kernel
theorem dX11_pull_74 : decode cX11_pull 74 = .ok (.istore 5, 2) := by decide +kernel
theorem dX11_pull_76 : decode cX11_pull 76 = .ok (.iconst 0, 1) := by decide +kernel
theorem dX11_pull_77 : decode cX11_pull 77 = .ok (.istore 6, 2) := by decide +kernel
theorem dX11_pull_79 : decode cX11_pull 79 = .ok (.iload 6, 2) := by decide +kernel
theorem dX11_pull_81 : decode cX11_pull 81 = .ok (.aload_n 0, 1) := by decide +kernel
theorem dX11_pull_82 : decode cX11_pull 82 = .ok (.getfield 19, 3) := by decide +kernel
theorem dX11_pull_85 : decode cX11_pull 85 = .ok (.iconst 3, 1) := by decide +kernel
theorem dX11_pull_86 : decode cX11_pull 86 = .ok (.iaload, 1) := by decide +kernel
theorem dX11_pull_87 : decode cX11_pull 87 = .ok (.if_icmp .ge 80, 3) := by decide +kernel
theorem dX11_pull_90 : decode cX11_pull 90 = .ok (.aload_n 0, 1) := by decide +kernel
theorem dX11_pull_91 : decode cX11_pull 91 = .ok (.iload 6, 2) := by decide +kernel
theorem dX11_pull_93 : decode cX11_pull 93 = .ok (.iconst 3, 1) := by decide +kernel
theorem dX11_pull_94 : decode cX11_pull 94 = .ok (.invokevirtual 188, 3) := by decide +kernel
theorem dX11_pull_97 : decode cX11_pull 97 = .ok (.istore 7, 2) := by decide +kernel
theorem dX11_pull_99 : decode cX11_pull 99 = .ok (.iload 5, 2) := by decide +kernel
theorem dX11_pull_101 : decode cX11_pull 101 = .ok (.ifCond .eq 34, 3) := by decide +kernel
theorem dX11_pull_104 : decode cX11_pull 104 = .ok (.iload 7, 2) := by decide +kernel
theorem dX11_pull_106 : decode cX11_pull 106 = .ok (.iload 4, 2) := by decide +kernel
theorem dX11_pull_108 : decode cX11_pull 108 = .ok (.if_icmp .ne 27, 3) := by decide +kernel
theorem dX11_pull_111 : decode cX11_pull 111 = .ok (.aload_n 0, 1) := by decide +kernel
theorem dX11_pull_112 : decode cX11_pull 112 = .ok (.iload 6, 2) := by decide +kernel
theorem dX11_pull_114 : decode cX11_pull 114 = .ok (.iconst 3, 1) := by decide +kernel
theorem dX11_pull_115 : decode cX11_pull 115 = .ok (.iconst (-1), 1) := by decide +kernel
theorem dX11_pull_116 : decode cX11_pull 116 = .ok (.invokevirtual 214, 3) := by decide +kernel
theorem dX11_pull_119 : decode cX11_pull 119 = .ok (.aload_n 0, 1) := by decide +kernel
theorem dX11_pull_120 : decode cX11_pull 120 = .ok (.iload 6, 2) := by decide +kernel
theorem dX11_pull_122 : decode cX11_pull 122 = .ok (.iconst 5, 1) := by decide +kernel
theorem dX11_pull_123 : decode cX11_pull 123 = .ok (.aload_n 0, 1) := by decide +kernel
theorem dX11_pull_124 : decode cX11_pull 124 = .ok (.iload 6, 2) := by decide +kernel
theorem dX11_pull_126 : decode cX11_pull 126 = .ok (.iconst 5, 1) := by decide +kernel
theorem dX11_pull_127 : decode cX11_pull 127 = .ok (.invokevirtual 188, 3) := by decide +kernel
theorem dX11_pull_130 : decode cX11_pull 130 = .ok (.iconst 5, 1) := by decide +kernel
theorem dX11_pull_131 : decode cX11_pull 131 = .ok (.iadd, 1) := by decide +kernel
theorem dX11_pull_132 : decode cX11_pull 132 = .ok (.invokevirtual 214, 3) := by decide +kernel
theorem dX11_pull_135 : decode cX11_pull 135 = .ok (.iload 5, 2) := by decide +kernel
theorem dX11_pull_137 : decode cX11_pull 137 = .ok (.ifCond .ne 24, 3) := by decide +kernel
theorem dX11_pull_140 : decode cX11_pull 140 = .ok (.iload 7, 2) := by decide +kernel
theorem dX11_pull_142 : decode cX11_pull 142 = .ok (.ifCond .lt 19, 3) := by decide +kernel
theorem dX11_pull_145 : decode cX11_pull 145 = .ok (.aload_n 0, 1) := by decide +kernel
theorem dX11_pull_146 : decode cX11_pull 146 = .ok (.iload 6, 2) := by decide +kernel
theorem dX11_pull_148 : decode cX11_pull 148 = .ok (.iconst 5, 1) := by decide +kernel
theorem dX11_pull_149 : decode cX11_pull 149 = .ok (.aload_n 0, 1) := by decide +kernel
theorem dX11_pull_150 : decode cX11_pull 150 = .ok (.iload 6, 2) := by decide +kernel
theorem dX11_pull_152 : decode cX11_pull 152 = .ok (.iconst 5, 1) := by decide +kernel
theorem dX11_pull_153 : decode cX11_pull 153 = .ok (.invokevirtual 188, 3) := by decide +kernel
theorem dX11_pull_156 : decode cX11_pull 156 = .ok (.iconst 1, 1) := by decide +kernel
theorem dX11_pull_157 : decode cX11_pull 157 = .ok (.iadd, 1) := by decide +kernel
theorem dX11_pull_158 : decode cX11_pull 158 = .ok (.invokevirtual 214, 3) := by decide +kernel
theorem dX11_pull_161 : decode cX11_pull 161 = .ok (.iinc 6 1, 3) := by decide +kernel
theorem dX11_pull_164 : decode cX11_pull 164 = .ok (.goto (-85), 3) := by decide +kernel
theorem dX11_pull_167 : decode cX11_pull 167 = .ok (.iload 5, 2) := by decide +kernel
theorem dX11_pull_169 : decode cX11_pull 169 = .ok (.ifCond .eq 8, 3) := by decide +kernel
theorem dX11_pull_172 : decode cX11_pull 172 = .ok (.iload 4, 2) := by decide +kernel
theorem dX11_pull_174 : decode cX11_pull 174 = .ok (.goto 5, 3) := by decide +kernel
theorem dX11_pull_177 : decode cX11_pull 177 = .ok (.ldc 86, 2) := by decide +kernel
theorem dX11_pull_179 : decode cX11_pull 179 = .ok (.ireturn, 1) := by decide +kernel
theorem dX11_year_0 : decode cX11_year 0 = .ok (.aload_n 0, 1) := by decide +kernel
theorem dX11_year_1 : decode cX11_year 1 = .ok (.iconst 0, 1) := by decide +kernel
theorem dX11_year_2 : decode cX11_year 2 = .ok (.putfield 50, 3) := by decide +kernel
theorem dX11_year_5 : decode cX11_year 5 = .ok (.aload_n 0, 1) := by decide +kernel
theorem dX11_year_6 : decode cX11_year 6 = .ok (.getfield 177, 3) := by decide +kernel
theorem dX11_year_9 : decode cX11_year 9 = .ok (.ifCond .ne 6, 3) := by decide +kernel
theorem dX11_year_12 : decode cX11_year 12 = .ok (.ldc 218, 2) := by decide +kernel
theorem dX11_year_14 : decode cX11_year 14 = .ok (.ireturn, 1) := by decide +kernel
theorem dX11_year_15 : decode cX11_year 15 = .ok (.iload_n 1, 1) := by decide +kernel
theorem dX11_year_16 : decode cX11_year 16 = .ok (.invokestatic 230, 3) := by decide +kernel
theorem dX11_year_19 : decode cX11_year 19 = .ok (.ifCond .ne 6, 3) := by decide +kernel
theorem dX11_year_22 : decode cX11_year 22 = .ok (.ldc 70, 2) := by decide +kernel
theorem dX11_year_24 : decode cX11_year 24 = .ok (.ireturn, 1) := by decide +kernel
theorem dX11_year_25 : decode cX11_year 25 = .ok (.aload_n 0, 1) := by decide +kernel
theorem dX11_year_26 : decode cX11_year 26 = .ok (.invokevirtual 211, 3) := by decide +kernel
theorem dX11_year_29 : decode cX11_year 29 = .ok (.aload_n 0, 1) := by decide +kernel
theorem dX11_year_30 : decode cX11_year 30 = .ok (.iload_n 1, 1) := by decide +kernel
theorem dX11_year_31 : decode cX11_year 31 = .ok (.i2l, 1) := by decide +kernel
theorem dX11_year_32 : decode cX11_year 32 = .ok (.putfield 219, 3) := by decide +kernel
theorem dX11_year_35 : decode cX11_year 35 = .ok (.iconst 0, 1) := by decide +kernel
theorem dX11_year_36 : decode cX11_year 36 = .ok (.istore_n 2, 1) := by decide +kernel
theorem dX11_year_37 : decode cX11_year 37 = .ok (.iconst 0, 1) := by decide +kernel
theorem dX11_year_38 : decode cX11_year 38 = .ok (.istore_n 3, 1) := by decide +kernel
theorem dX11_year_39 : decode cX11_year 39 = .ok (.iload_n 3, 1) := by decide +kernel
theorem dX11_year_40 : decode cX11_year 40 = .ok (.aload_n 0, 1) := by decide +kernel
theorem dX11_year_41 : decode cX11_year 41 = .ok (.getfield 19, 3) := by decide +kernel
theorem dX11_year_44 : decode cX11_year 44 = .ok (.iconst 3, 1) := by decide +kernel
theorem dX11_year_45 : decode cX11_year 45 = .ok (.iaload, 1) := by decide +kernel
theorem dX11_year_46 : decode cX11_year 46 = .ok (.if_icmp .ge 90, 3) := by decide +kernel
theorem dX11_year_49 : decode cX11_year 49 = .ok (.aload_n 0, 1) := by decide +kernel
theorem dX11_year_50 : decode cX11_year 50 = .ok (.iload_n 3, 1) := by decide +kernel
theorem dX11_year_51 : decode cX11_year 51 = .ok (.iconst 4, 1) := by decide +kernel
theorem dX11_year_52 : decode cX11_year 52 = .ok (.invokevirtual 188, 3) := by decide +kernel
theorem dX11_year_55 : decode cX11_year 55 = .ok (.ifCond .ne 75, 3) := by decide +kernel
theorem dX11_year_58 : decode cX11_year 58 = .ok (.aload_n 0, 1) := by decide +kernel
theorem dX11_year_59 : decode cX11_year 59 = .ok (.iload_n 3, 1) := by decide +kernel
theorem dX11_year_60 : decode cX11_year 60 = .ok (.iconst 0, 1) := by decide +kernel
theorem dX11_year_61 : decode cX11_year 61 = .ok (.invokevirtual 188, 3) := by decide +kernel
theorem dX11_year_64 : decode cX11_year 64 = .ok (.istore 4, 2) := by decide +kernel
theorem dX11_year_66 : decode cX11_year 66 = .ok (.iload 4, 2) := by decide +kernel
theorem dX11_year_68 : decode cX11_year 68 = .ok (.iconst 2, 1) := by decide +kernel
theorem dX11_year_69 : decode cX11_year 69 = .ok (.if_icmp .eq 23, 3) := by decide +kernel
theorem dX11_year_72 : decode cX11_year 72 = .ok (.iload 4, 2) := by decide +kernel
theorem dX11_year_74 : decode cX11_year 74 = .ok (.iconst 4, 1) := by decide +kernel
theorem dX11_year_75 : decode cX11_year 75 = .ok (.if_icmp .eq 21, 3) := by decide +kernel
theorem dX11_year_78 : decode cX11_year 78 = .ok (.aload_n 0, 1) := by decide +kernel
theorem dX11_year_79 : decode cX11_year 79 = .ok (.bipush 10, 2) := by decide +kernel
theorem dX11_year_81 : decode cX11_year 81 = .ok (.invokevirtual 233, 3) := by decide +kernel
theorem dX11_year_84 : decode cX11_year 84 = .ok (.aload_n 0, 1) := by decide +kernel
theorem dX11_year_85 : decode cX11_year 85 = .ok (.iload_n 3, 1) := by decide +kernel
theorem dX11_year_86 : decode cX11_year 86 = .ok (.invokevirtual 242, 3) := by decide +kernel
theorem dX11_year_89 : decode cX11_year 89 = .ok (.if_icmp .ge 7, 3) := by decide +kernel
theorem dX11_year_92 : decode cX11_year 92 = .ok (.iconst 1, 1) := by decide +kernel
theorem dX11_year_93 : decode cX11_year 93 = .ok (.goto 4, 3) := by decide +kernel
theorem dX11_year_96 : decode cX11_year 96 = .ok (.iconst 0, 1) := by decide +kernel
theorem dX11_year_97 : decode cX11_year 97 = .ok (.istore 5, 2) := by decide +kernel
theorem dX11_year_99 : decode cX11_year 99 = .ok (.aload_n 0, 1) := by decide +kernel
theorem dX11_year_100 : decode cX11_year 100 = .ok (.iload_n 3, 1) := by decide +kernel
theorem dX11_year_101 : decode cX11_year 101 = .ok (.iconst 4, 1) := by decide +kernel
theorem dX11_year_102 : decode cX11_year 102 = .ok (.iload 5, 2) := by decide +kernel
theorem dX11_year_104 : decode cX11_year 104 = .ok (.ifCond .eq 7, 3) := by decide +kernel
theorem dX11_year_107 : decode cX11_year 107 = .ok (.iconst 1, 1) := by decide +kernel
theorem dX11_year_108 : decode cX11_year 108 = .ok (.goto 4, 3) := by decide +kernel
theorem dX11_year_111 : decode cX11_year 111 = .ok (.iconst 2, 1) := by decide +kernel
theorem dX11_year_112 : decode cX11_year 112 = .ok (.invokevirtual 214, 3) := by decide +kernel
theorem dX11_year_115 : decode cX11_year 115 = .ok (.iload_n 2, 1) := by decide +kernel
theorem dX11_year_116 : decode cX11_year 116 = .ok (.iload 5, 2) := by decide +kernel
theorem dX11_year_118 : decode cX11_year 118 = .ok (.ifCond .eq 7, 3) := by decide +kernel
theorem dX11_year_121 : decode cX11_year 121 = .ok (.iconst 0, 1) := by decide +kernel
theorem dX11_year_122 : decode cX11_year 122 = .ok (.goto 6, 3) := by decide +kernel
theorem dX11_year_125 : decode cX11_year 125 = .ok (.iconst 1, 1) := by decide +kernel
theorem dX11_year_126 : decode cX11_year 126 = .ok (.iload_n 3, 1) := by decide +kernel
theorem dX11_year_127 : decode cX11_year 127 = .ok (.ishl, 1) := by decide +kernel
theorem dX11_year_128 : decode cX11_year 128 = .ok (.ior, 1) := by decide +kernel
theorem dX11_year_129 : decode cX11_year 129 = .ok (.istore_n 2, 1) := by decide +kernel
theorem dX11_year_130 : decode cX11_year 130 = .ok (.iinc 3 1, 3) := by decide +kernel
theorem dX11_year_133 : decode cX11_year 133 = .ok (.goto (-94), 3) := by decide +kernel
theorem dX11_year_136 : decode cX11_year 136 = .ok (.iload_n 2, 1) := by decide +kernel
theorem dX11_year_137 : decode cX11_year 137 = .ok (.ireturn, 1) := by decide +kernel
theorem dX11_undo_0 : decode cX11_undo 0 = .ok (.aload_n 0, 1) := by decide +kernel
theorem dX11_undo_1 : decode cX11_undo 1 = .ok (.iconst 0, 1) := by decide +kernel
theorem dX11_undo_2 : decode cX11_undo 2 = .ok (.putfield 50, 3) := by decide +kernel
theorem dX11_undo_5 : decode cX11_undo 5 = .ok (.aload_n 0, 1) := by decide +kernel
theorem dX11_undo_6 : decode cX11_undo 6 = .ok (.getfield 181, 3) := by decide +kernel
theorem dX11_undo_9 : decode cX11_undo 9 = .ok (.ifCond .ne 6, 3) := by decide +kernel
theorem dX11_undo_12 : decode cX11_undo 12 = .ok (.ldc 218, 2) := by decide +kernel
theorem dX11_undo_14 : decode cX11_undo 14 = .ok (.ireturn, 1) := by decide +kernel
theorem dX11_undo_15 : decode cX11_undo 15 = .ok (.aload_n 0, 1) := by decide +kernel
theorem dX11_undo_16 : decode cX11_undo 16 = .ok (.dup, 1) := by decide +kernel
theorem dX11_undo_17 : decode cX11_undo 17 = .ok (.getfield 181, 3) := by decide +kernel
theorem dX11_undo_20 : decode cX11_undo 20 = .ok (.iconst 1, 1) := by decide +kernel
theorem dX11_undo_21 : decode cX11_undo 21 = .ok (.isub, 1) := by decide +kernel
theorem dX11_undo_22 : decode cX11_undo 22 = .ok (.putfield 181, 3) := by decide +kernel
theorem dX11_undo_25 : decode cX11_undo 25 = .ok (.iconst 0, 1) := by decide +kernel
theorem dX11_undo_26 : decode cX11_undo 26 = .ok (.istore_n 1, 1) := by decide +kernel
theorem dX11_undo_27 : decode cX11_undo 27 = .ok (.iload_n 1, 1) := by decide +kernel
theorem dX11_undo_28 : decode cX11_undo 28 = .ok (.bipush 77, 2) := by decide +kernel
theorem dX11_undo_30 : decode cX11_undo 30 = .ok (.if_icmp .ge 29, 3) := by decide +kernel
theorem dX11_undo_33 : decode cX11_undo 33 = .ok (.aload_n 0, 1) := by decide +kernel
theorem dX11_undo_34 : decode cX11_undo 34 = .ok (.getfield 19, 3) := by decide +kernel
theorem dX11_undo_37 : decode cX11_undo 37 = .ok (.iload_n 1, 1) := by decide +kernel
theorem dX11_undo_38 : decode cX11_undo 38 = .ok (.aload_n 0, 1) := by decide +kernel
theorem dX11_undo_39 : decode cX11_undo 39 = .ok (.getfield 25, 3) := by decide +kernel
theorem dX11_undo_42 : decode cX11_undo 42 = .ok (.bipush 77, 2) := by decide +kernel
theorem dX11_undo_44 : decode cX11_undo 44 = .ok (.aload_n 0, 1) := by decide +kernel
theorem dX11_undo_45 : decode cX11_undo 45 = .ok (.getfield 181, 3) := by decide +kernel
theorem dX11_undo_48 : decode cX11_undo 48 = .ok (.imul, 1) := by decide +kernel
theorem dX11_undo_49 : decode cX11_undo 49 = .ok (.iload_n 1, 1) := by decide +kernel
theorem dX11_undo_50 : decode cX11_undo 50 = .ok (.iadd, 1) := by decide +kernel
theorem dX11_undo_51 : decode cX11_undo 51 = .ok (.iaload, 1) := by decide +kernel
theorem dX11_undo_52 : decode cX11_undo 52 = .ok (.iastore, 1) := by decide +kernel
theorem dX11_undo_53 : decode cX11_undo 53 = .ok (.iinc 1 1, 3) := by decide +kernel
theorem dX11_undo_56 : decode cX11_undo 56 = .ok (.goto (-29), 3) := by decide +kernel
theorem dX11_undo_59 : decode cX11_undo 59 = .ok (.aload_n 0, 1) := by decide +kernel
theorem dX11_undo_60 : decode cX11_undo 60 = .ok (.getfield 181, 3) := by decide +kernel
theorem dX11_undo_63 : decode cX11_undo 63 = .ok (.ireturn, 1) := by decide +kernel
theorem dX11_yarn_0 : decode cX11_yarn 0 = .ok (.aload_n 0, 1) := by decide +kernel
theorem dX11_yarn_1 : decode cX11_yarn 1 = .ok (.iconst 0, 1) := by decide +kernel
theorem dX11_yarn_2 : decode cX11_yarn 2 = .ok (.putfield 50, 3) := by decide +kernel
theorem dX11_yarn_5 : decode cX11_yarn 5 = .ok (.aload_n 0, 1) := by decide +kernel
theorem dX11_yarn_6 : decode cX11_yarn 6 = .ok (.iload_n 1, 1) := by decide +kernel
theorem dX11_yarn_7 : decode cX11_yarn 7 = .ok (.invokevirtual 206, 3) := by decide +kernel
theorem dX11_yarn_10 : decode cX11_yarn 10 = .ok (.ifCond .eq 15, 3) := by decide +kernel
theorem dX11_yarn_13 : decode cX11_yarn 13 = .ok (.iload_n 2, 1) := by decide +kernel
theorem dX11_yarn_14 : decode cX11_yarn 14 = .ok (.i2l, 1) := by decide +kernel
theorem dX11_yarn_15 : decode cX11_yarn 15 = .ok (.lconst 0, 1) := by decide +kernel
theorem dX11_yarn_16 : decode cX11_yarn 16 = .ok (.ldc2_w 245, 3) := by decide +kernel
theorem dX11_yarn_19 : decode cX11_yarn 19 = .ok (.invokestatic 60, 3) := by decide +kernel
theorem dX11_yarn_22 : decode cX11_yarn 22 = .ok (.ifCond .ne 6, 3) := by decide +kernel
theorem dX11_yarn_25 : decode cX11_yarn 25 = .ok (.ldc 70, 2) := by decide +kernel
theorem dX11_yarn_27 : decode cX11_yarn 27 = .ok (.ireturn, 1) := by decide +kernel
theorem dX11_yarn_28 : decode cX11_yarn 28 = .ok (.iload_n 2, 1) := by decide +kernel
theorem dX11_yarn_29 : decode cX11_yarn 29 = .ok (.tableswitch 47 0 2 #[27, 34, 41], 27) := by decide +kernel
theorem dX11_yarn_56 : decode cX11_yarn 56 = .ok (.aload_n 0, 1) := by decide +kernel
theorem dX11_yarn_57 : decode cX11_yarn 57 = .ok (.iload_n 1, 1) := by decide +kernel
theorem dX11_yarn_58 : decode cX11_yarn 58 = .ok (.iconst 1, 1) := by decide +kernel
theorem dX11_yarn_59 : decode cX11_yarn 59 = .ok (.invokevirtual 188, 3) := by decide +kernel
theorem dX11_yarn_62 : decode cX11_yarn 62 = .ok (.ireturn, 1) := by decide +kernel
theorem dX11_yarn_63 : decode cX11_yarn 63 = .ok (.aload_n 0, 1) := by decide +kernel
theorem dX11_yarn_64 : decode cX11_yarn 64 = .ok (.iload_n 1, 1) := by decide +kernel
theorem dX11_yarn_65 : decode cX11_yarn 65 = .ok (.iconst 2, 1) := by decide +kernel
theorem dX11_yarn_66 : decode cX11_yarn 66 = .ok (.invokevirtual 188, 3) := by decide +kernel
theorem dX11_yarn_69 : decode cX11_yarn 69 = .ok (.ireturn, 1) := by decide +kernel
theorem dX11_yarn_70 : decode cX11_yarn 70 = .ok (.aload_n 0, 1) := by decide +kernel
theorem dX11_yarn_71 : decode cX11_yarn 71 = .ok (.iload_n 1, 1) := by decide +kernel
theorem dX11_yarn_72 : decode cX11_yarn 72 = .ok (.invokevirtual 200, 3) := by decide +kernel
theorem dX11_yarn_75 : decode cX11_yarn 75 = .ok (.ireturn, 1) := by decide +kernel
theorem dX11_yarn_76 : decode cX11_yarn 76 = .ok (.aload_n 0, 1) := by decide +kernel
theorem dX11_yarn_77 : decode cX11_yarn 77 = .ok (.iload_n 1, 1) := by decide +kernel
theorem dX11_yarn_78 : decode cX11_yarn 78 = .ok (.iload_n 2, 1) := by decide +kernel
theorem dX11_yarn_79 : decode cX11_yarn 79 = .ok (.invokevirtual 188, 3) := by decide +kernel
theorem dX11_yarn_82 : decode cX11_yarn 82 = .ok (.ireturn, 1) := by decide +kernel
theorem dX11_bears_0 : decode cX11_bears 0 = .ok (.aload_n 0, 1) := by decide +kernel
theorem dX11_bears_1 : decode cX11_bears 1 = .ok (.iconst 0, 1) := by decide +kernel
theorem dX11_bears_2 : decode cX11_bears 2 = .ok (.putfield 50, 3) := by decide +kernel
theorem dX11_bears_5 : decode cX11_bears 5 = .ok (.aload_n 0, 1) := by decide +kernel
theorem dX11_bears_6 : decode cX11_bears 6 = .ok (.getfield 177, 3) := by decide +kernel
theorem dX11_bears_9 : decode cX11_bears 9 = .ok (.ifCond .ne 6, 3) := by decide +kernel
theorem dX11_bears_12 : decode cX11_bears 12 = .ok (.ldc 218, 2) := by decide +kernel
theorem dX11_bears_14 : decode cX11_bears 14 = .ok (.ireturn, 1) := by decide +kernel
theorem dX11_bears_15 : decode cX11_bears 15 = .ok (.iload_n 1, 1) := by decide +kernel
theorem dX11_bears_16 : decode cX11_bears 16 = .ok (.i2l, 1) := by decide +kernel
theorem dX11_bears_17 : decode cX11_bears 17 = .ok (.lconst 0, 1) := by decide +kernel
theorem dX11_bears_18 : decode cX11_bears 18 = .ok (.ldc2_w 247, 3) := by decide +kernel
theorem dX11_bears_21 : decode cX11_bears 21 = .ok (.invokestatic 60, 3) := by decide +kernel
theorem dX11_bears_24 : decode cX11_bears 24 = .ok (.ifCond .ne 6, 3) := by decide +kernel
theorem dX11_bears_27 : decode cX11_bears 27 = .ok (.ldc 70, 2) := by decide +kernel
theorem dX11_bears_29 : decode cX11_bears 29 = .ok (.ireturn, 1) := by decide +kernel
theorem dX11_bears_30 : decode cX11_bears 30 = .ok (.aload_n 0, 1) := by decide +kernel
theorem dX11_bears_31 : decode cX11_bears 31 = .ok (.invokevirtual 236, 3) := by decide +kernel
theorem dX11_bears_34 : decode cX11_bears 34 = .ok (.iload_n 1, 1) := by decide +kernel
theorem dX11_bears_35 : decode cX11_bears 35 = .ok (.iconst 3, 1) := by decide +kernel
theorem dX11_bears_36 : decode cX11_bears 36 = .ok (.if_icmp .ne 10, 3) := by decide +kernel
theorem dX11_bears_39 : decode cX11_bears 39 = .ok (.aload_n 0, 1) := by decide +kernel
theorem dX11_bears_40 : decode cX11_bears 40 = .ok (.invokevirtual 239, 3) := by decide +kernel
theorem dX11_bears_43 : decode cX11_bears 43 = .ok (.goto 9, 3) := by decide +kernel
theorem dX11_bears_46 : decode cX11_bears 46 = .ok (.aload_n 0, 1) := by decide +kernel
theorem dX11_bears_47 : decode cX11_bears 47 = .ok (.getfield 31, 3) := by decide +kernel
theorem dX11_bears_50 : decode cX11_bears 50 = .ok (.iload_n 1, 1) := by decide +kernel
theorem dX11_bears_51 : decode cX11_bears 51 = .ok (.iaload, 1) := by decide +kernel
theorem dX11_bears_52 : decode cX11_bears 52 = .ok (.ireturn, 1) := by decide +kernel
theorem dX11_bearsBy_0 : decode cX11_bearsBy 0 = .ok (.iload_n 1, 1) := by decide +kernel
theorem dX11_bearsBy_1 : decode cX11_bearsBy 1 = .ok (.istore_n 2, 1) := by decide +kernel
theorem dX11_bearsBy_2 : decode cX11_bearsBy 2 = .ok (.aload_n 0, 1) := by decide +kernel
theorem dX11_bearsBy_3 : decode cX11_bearsBy 3 = .ok (.invokevirtual 197, 3) := by decide +kernel
theorem dX11_bearsBy_6 : decode cX11_bearsBy 6 = .ok (.aload_n 0, 1) := by decide +kernel
theorem dX11_bearsBy_7 : decode cX11_bearsBy 7 = .ok (.getfield 19, 3) := by decide +kernel
theorem dX11_bearsBy_10 : decode cX11_bearsBy 10 = .ok (.iconst 3, 1) := by decide +kernel
theorem dX11_bearsBy_11 : decode cX11_bearsBy 11 = .ok (.iaload, 1) := by decide +kernel
theorem dX11_bearsBy_12 : decode cX11_bearsBy 12 = .ok (.iconst 1, 1) := by decide +kernel
theorem dX11_bearsBy_13 : decode cX11_bearsBy 13 = .ok (.isub, 1) := by decide +kernel
theorem dX11_bearsBy_14 : decode cX11_bearsBy 14 = .ok (.istore_n 3, 1) := by decide +kernel
theorem dX11_bearsBy_15 : decode cX11_bearsBy 15 = .ok (.iload_n 3, 1) := by decide +kernel
theorem dX11_bearsBy_16 : decode cX11_bearsBy 16 = .ok (.ifCond .lt 29, 3) := by decide +kernel
theorem dX11_bearsBy_19 : decode cX11_bearsBy 19 = .ok (.aload_n 0, 1) := by decide +kernel
theorem dX11_bearsBy_20 : decode cX11_bearsBy 20 = .ok (.getfield 31, 3) := by decide +kernel
theorem dX11_bearsBy_23 : decode cX11_bearsBy 23 = .ok (.iload_n 2, 1) := by decide +kernel
theorem dX11_bearsBy_24 : decode cX11_bearsBy 24 = .ok (.iconst 3, 1) := by decide +kernel
theorem dX11_bearsBy_25 : decode cX11_bearsBy 25 = .ok (.irem, 1) := by decide +kernel
theorem dX11_bearsBy_26 : decode cX11_bearsBy 26 = .ok (.dup2, 1) := by decide +kernel
theorem dX11_bearsBy_27 : decode cX11_bearsBy 27 = .ok (.iaload, 1) := by decide +kernel
theorem dX11_bearsBy_28 : decode cX11_bearsBy 28 = .ok (.aload_n 0, 1) := by decide +kernel
theorem dX11_bearsBy_29 : decode cX11_bearsBy 29 = .ok (.iload_n 3, 1) := by decide +kernel
theorem dX11_bearsBy_30 : decode cX11_bearsBy 30 = .ok (.invokevirtual 200, 3) := by decide +kernel
theorem dX11_bearsBy_33 : decode cX11_bearsBy 33 = .ok (.iadd, 1) := by decide +kernel
theorem dX11_bearsBy_34 : decode cX11_bearsBy 34 = .ok (.iastore, 1) := by decide +kernel
theorem dX11_bearsBy_35 : decode cX11_bearsBy 35 = .ok (.iload_n 2, 1) := by decide +kernel
theorem dX11_bearsBy_36 : decode cX11_bearsBy 36 = .ok (.iconst 3, 1) := by decide +kernel
theorem dX11_bearsBy_37 : decode cX11_bearsBy 37 = .ok (.idiv, 1) := by decide +kernel
theorem dX11_bearsBy_38 : decode cX11_bearsBy 38 = .ok (.istore_n 2, 1) := by decide +kernel
theorem dX11_bearsBy_39 : decode cX11_bearsBy 39 = .ok (.iinc 3 (-1), 3) := by decide +kernel
theorem dX11_bearsBy_42 : decode cX11_bearsBy 42 = .ok (.goto (-27), 3) := by decide +kernel
theorem dX11_bearsBy_45 : decode cX11_bearsBy 45 = .ok (.aload_n 0, 1) := by decide +kernel
theorem dX11_bearsBy_46 : decode cX11_bearsBy 46 = .ok (.invokevirtual 239, 3) := by decide +kernel
theorem dX11_bearsBy_49 : decode cX11_bearsBy 49 = .ok (.ireturn, 1) := by decide +kernel
theorem dX11_layBest_0 : decode cX11_layBest 0 = .ok (.iconst 1, 1) := by decide +kernel
theorem dX11_layBest_1 : decode cX11_layBest 1 = .ok (.istore_n 1, 1) := by decide +kernel
theorem dX11_layBest_2 : decode cX11_layBest 2 = .ok (.iconst 0, 1) := by decide +kernel
theorem dX11_layBest_3 : decode cX11_layBest 3 = .ok (.istore_n 2, 1) := by decide +kernel
theorem dX11_layBest_4 : decode cX11_layBest 4 = .ok (.iload_n 2, 1) := by decide +kernel
theorem dX11_layBest_5 : decode cX11_layBest 5 = .ok (.aload_n 0, 1) := by decide +kernel
theorem dX11_layBest_6 : decode cX11_layBest 6 = .ok (.getfield 19, 3) := by decide +kernel
theorem dX11_layBest_9 : decode cX11_layBest 9 = .ok (.iconst 3, 1) := by decide +kernel
theorem dX11_layBest_10 : decode cX11_layBest 10 = .ok (.iaload, 1) := by decide +kernel
theorem dX11_layBest_11 : decode cX11_layBest 11 = .ok (.if_icmp .ge 13, 3) := by decide +kernel
theorem dX11_layBest_14 : decode cX11_layBest 14 = .ok (.iload_n 1, 1) := by decide +kernel
theorem dX11_layBest_15 : decode cX11_layBest 15 = .ok (.iconst 3, 1) := by decide +kernel
theorem dX11_layBest_16 : decode cX11_layBest 16 = .ok (.imul, 1) := by decide +kernel
theorem dX11_layBest_17 : decode cX11_layBest 17 = .ok (.istore_n 1, 1) := by decide +kernel
theorem dX11_layBest_18 : decode cX11_layBest 18 = .ok (.iinc 2 1, 3) := by decide +kernel
theorem dX11_layBest_21 : decode cX11_layBest 21 = .ok (.goto (-17), 3) := by decide +kernel
theorem dX11_layBest_24 : decode cX11_layBest 24 = .ok (.iconst (-1), 1) := by decide +kernel
theorem dX11_layBest_25 : decode cX11_layBest 25 = .ok (.istore_n 2, 1) := by decide +kernel
theorem dX11_layBest_26 : decode cX11_layBest 26 = .ok (.iconst 0, 1) := by decide +kernel
theorem dX11_layBest_27 : decode cX11_layBest 27 = .ok (.istore_n 3, 1) := by decide +kernel
theorem dX11_layBest_28 : decode cX11_layBest 28 = .ok (.iload_n 3, 1) := by decide +kernel
theorem dX11_layBest_29 : decode cX11_layBest 29 = .ok (.iload_n 1, 1) := by decide +kernel
theorem dX11_layBest_30 : decode cX11_layBest 30 = .ok (.if_icmp .ge 47, 3) := by decide +kernel
theorem dX11_layBest_33 : decode cX11_layBest 33 = .ok (.aload_n 0, 1) := by decide +kernel
theorem dX11_layBest_34 : decode cX11_layBest 34 = .ok (.iload_n 3, 1) := by decide +kernel
theorem dX11_layBest_35 : decode cX11_layBest 35 = .ok (.invokevirtual 249, 3) := by decide +kernel
theorem dX11_layBest_38 : decode cX11_layBest 38 = .ok (.istore 4, 2) := by decide +kernel
theorem dX11_layBest_40 : decode cX11_layBest 40 = .ok (.aload_n 0, 1) := by decide +kernel
theorem dX11_layBest_41 : decode cX11_layBest 41 = .ok (.iload 4, 2) := by decide +kernel
theorem dX11_layBest_43 : decode cX11_layBest 43 = .ok (.iload_n 2, 1) := by decide +kernel
theorem dX11_layBest_44 : decode cX11_layBest 44 = .ok (.if_icmp .le 7, 3) := by decide +kernel
theorem dX11_layBest_47 : decode cX11_layBest 47 = .ok (.iload_n 3, 1) := by decide +kernel
theorem dX11_layBest_48 : decode cX11_layBest 48 = .ok (.goto 7, 3) := by decide +kernel
theorem dX11_layBest_51 : decode cX11_layBest 51 = .ok (.aload_n 0, 1) := by decide +kernel
theorem dX11_layBest_52 : decode cX11_layBest 52 = .ok (.getfield 252, 3) := by decide +kernel
theorem dX11_layBest_55 : decode cX11_layBest 55 = .ok (.putfield 252, 3) := by decide +kernel
theorem dX11_layBest_58 : decode cX11_layBest 58 = .ok (.iload 4, 2) := by decide +kernel
theorem dX11_layBest_60 : decode cX11_layBest 60 = .ok (.iload_n 2, 1) := by decide +kernel
theorem dX11_layBest_61 : decode cX11_layBest 61 = .ok (.if_icmp .le 8, 3) := by decide +kernel
theorem dX11_layBest_64 : decode cX11_layBest 64 = .ok (.iload 4, 2) := by decide +kernel
theorem dX11_layBest_66 : decode cX11_layBest 66 = .ok (.goto 4, 3) := by decide +kernel
theorem dX11_layBest_69 : decode cX11_layBest 69 = .ok (.iload_n 2, 1) := by decide +kernel
theorem dX11_layBest_70 : decode cX11_layBest 70 = .ok (.istore_n 2, 1) := by decide +kernel
theorem dX11_layBest_71 : decode cX11_layBest 71 = .ok (.iinc 3 1, 3) := by decide +kernel
theorem dX11_layBest_74 : decode cX11_layBest 74 = .ok (.goto (-46), 3) := by decide +kernel
theorem dX11_layBest_77 : decode cX11_layBest 77 = .ok (.iload_n 2, 1) := by decide +kernel
theorem dX11_layBest_78 : decode cX11_layBest 78 = .ok (.ireturn, 1) := by decide +kernel
theorem dX11_best_0 : decode cX11_best 0 = .ok (.aload_n 0, 1) := by decide +kernel
theorem dX11_best_1 : decode cX11_best 1 = .ok (.iconst 0, 1) := by decide +kernel
theorem dX11_best_2 : decode cX11_best 2 = .ok (.putfield 50, 3) := by decide +kernel
theorem dX11_best_5 : decode cX11_best 5 = .ok (.aload_n 0, 1) := by decide +kernel
theorem dX11_best_6 : decode cX11_best 6 = .ok (.getfield 177, 3) := by decide +kernel
theorem dX11_best_9 : decode cX11_best 9 = .ok (.ifCond .ne 6, 3) := by decide +kernel
theorem dX11_best_12 : decode cX11_best 12 = .ok (.ldc 218, 2) := by decide +kernel
end
section
theorem dX11_best_14 : decode cX11_best 14 = .ok (.ireturn, 1) := by decide +kernel
theorem dX11_best_15 : decode cX11_best 15 = .ok (.iload_n 1, 1) := by decide +kernel
theorem dX11_best_16 : decode cX11_best 16 = .ok (.i2l, 1) := by decide +kernel
theorem dX11_best_17 : decode cX11_best 17 = .ok (.ldc2_w 209, 3) := by decide +kernel
theorem dX11_best_20 : decode cX11_best 20 = .ok (.aload_n 0, 1) := by decide +kernel
theorem dX11_best_21 : decode cX11_best 21 = .ok (.getfield 19, 3) := by decide +kernel
theorem dX11_best_24 : decode cX11_best 24 = .ok (.iconst 3, 1) := by decide +kernel
theorem dX11_best_25 : decode cX11_best 25 = .ok (.iaload, 1) := by decide +kernel
theorem dX11_best_26 : decode cX11_best 26 = .ok (.iconst 1, 1) := by decide +kernel
theorem dX11_best_27 : decode cX11_best 27 = .ok (.isub, 1) := by decide +kernel
theorem dX11_best_28 : decode cX11_best 28 = .ok (.i2l, 1) := by decide +kernel
theorem dX11_best_29 : decode cX11_best 29 = .ok (.invokestatic 60, 3) := by decide +kernel
theorem dX11_best_32 : decode cX11_best 32 = .ok (.ifCond .ne 6, 3) := by decide +kernel
theorem dX11_best_35 : decode cX11_best 35 = .ok (.ldc 70, 2) := by decide +kernel
theorem dX11_best_37 : decode cX11_best 37 = .ok (.ireturn, 1) := by decide +kernel
theorem dX11_best_38 : decode cX11_best 38 = .ok (.aload_n 0, 1) := by decide +kernel
theorem dX11_best_39 : decode cX11_best 39 = .ok (.invokevirtual 255, 3) := by decide +kernel
theorem dX11_best_42 : decode cX11_best 42 = .ok (.istore_n 2, 1) := by decide +kernel
theorem dX11_best_43 : decode cX11_best 43 = .ok (.aload_n 0, 1) := by decide +kernel
theorem dX11_best_44 : decode cX11_best 44 = .ok (.getfield 252, 3) := by decide +kernel
theorem dX11_best_47 : decode cX11_best 47 = .ok (.istore_n 3, 1) := by decide +kernel
theorem dX11_best_48 : decode cX11_best 48 = .ok (.aload_n 0, 1) := by decide +kernel
theorem dX11_best_49 : decode cX11_best 49 = .ok (.getfield 19, 3) := by decide +kernel
theorem dX11_best_52 : decode cX11_best 52 = .ok (.iconst 3, 1) := by decide +kernel
theorem dX11_best_53 : decode cX11_best 53 = .ok (.iaload, 1) := by decide +kernel
theorem dX11_best_54 : decode cX11_best 54 = .ok (.iconst 1, 1) := by decide +kernel
theorem dX11_best_55 : decode cX11_best 55 = .ok (.isub, 1) := by decide +kernel
theorem dX11_best_56 : decode cX11_best 56 = .ok (.istore 4, 2) := by decide +kernel
theorem dX11_best_58 : decode cX11_best 58 = .ok (.iload 4, 2) := by decide +kernel
theorem dX11_best_60 : decode cX11_best 60 = .ok (.iload_n 1, 1) := by decide +kernel
theorem dX11_best_61 : decode cX11_best 61 = .ok (.if_icmp .le 17, 3) := by decide +kernel
theorem dX11_best_64 : decode cX11_best 64 = .ok (.iload_n 1, 1) := by decide +kernel
theorem dX11_best_65 : decode cX11_best 65 = .ok (.ifCond .lt 13, 3) := by decide +kernel
theorem dX11_best_68 : decode cX11_best 68 = .ok (.iload_n 3, 1) := by decide +kernel
theorem dX11_best_69 : decode cX11_best 69 = .ok (.iconst 3, 1) := by decide +kernel
theorem dX11_best_70 : decode cX11_best 70 = .ok (.idiv, 1) := by decide +kernel
theorem dX11_best_71 : decode cX11_best 71 = .ok (.istore_n 3, 1) := by decide +kernel
theorem dX11_best_72 : decode cX11_best 72 = .ok (.iinc 4 (-1), 3) := by decide +kernel
theorem dX11_best_75 : decode cX11_best 75 = .ok (.goto (-17), 3) := by decide +kernel
theorem dX11_best_78 : decode cX11_best 78 = .ok (.iload_n 1, 1) := by decide +kernel
theorem dX11_best_79 : decode cX11_best 79 = .ok (.ifCond .ge 7, 3) := by decide +kernel
theorem dX11_best_82 : decode cX11_best 82 = .ok (.iload_n 2, 1) := by decide +kernel
theorem dX11_best_83 : decode cX11_best 83 = .ok (.goto 6, 3) := by decide +kernel
theorem dX11_best_86 : decode cX11_best 86 = .ok (.iload_n 3, 1) := by decide +kernel
theorem dX11_best_87 : decode cX11_best 87 = .ok (.iconst 3, 1) := by decide +kernel
theorem dX11_best_88 : decode cX11_best 88 = .ok (.irem, 1) := by decide +kernel
theorem dX11_best_89 : decode cX11_best 89 = .ok (.ireturn, 1) := by decide +kernel
theorem dX11_layTogether_0 : decode cX11_layTogether 0 = .ok (.iconst 0, 1) := by decide +kernel
theorem dX11_layTogether_1 : decode cX11_layTogether 1 = .ok (.istore_n 2, 1) := by decide +kernel
theorem dX11_layTogether_2 : decode cX11_layTogether 2 = .ok (.iload_n 2, 1) := by decide +kernel
theorem dX11_layTogether_3 : decode cX11_layTogether 3 = .ok (.iconst 1, 1) := by decide +kernel
theorem dX11_layTogether_4 : decode cX11_layTogether 4 = .ok (.aload_n 0, 1) := by decide +kernel
theorem dX11_layTogether_5 : decode cX11_layTogether 5 = .ok (.getfield 19, 3) := by decide +kernel
theorem dX11_layTogether_8 : decode cX11_layTogether 8 = .ok (.iconst 3, 1) := by decide +kernel
theorem dX11_layTogether_9 : decode cX11_layTogether 9 = .ok (.iaload, 1) := by decide +kernel
theorem dX11_layTogether_10 : decode cX11_layTogether 10 = .ok (.ishl, 1) := by decide +kernel
theorem dX11_layTogether_11 : decode cX11_layTogether 11 = .ok (.if_icmp .ge 139, 3) := by decide +kernel
theorem dX11_layTogether_14 : decode cX11_layTogether 14 = .ok (.aload_n 0, 1) := by decide +kernel
theorem dX11_layTogether_15 : decode cX11_layTogether 15 = .ok (.getfield 34, 3) := by decide +kernel
theorem dX11_layTogether_18 : decode cX11_layTogether 18 = .ok (.iload_n 2, 1) := by decide +kernel
theorem dX11_layTogether_19 : decode cX11_layTogether 19 = .ok (.iconst 0, 1) := by decide +kernel
theorem dX11_layTogether_20 : decode cX11_layTogether 20 = .ok (.iastore, 1) := by decide +kernel
theorem dX11_layTogether_21 : decode cX11_layTogether 21 = .ok (.aload_n 0, 1) := by decide +kernel
theorem dX11_layTogether_22 : decode cX11_layTogether 22 = .ok (.getfield 37, 3) := by decide +kernel
theorem dX11_layTogether_25 : decode cX11_layTogether 25 = .ok (.iload_n 2, 1) := by decide +kernel
theorem dX11_layTogether_26 : decode cX11_layTogether 26 = .ok (.iconst 0, 1) := by decide +kernel
theorem dX11_layTogether_27 : decode cX11_layTogether 27 = .ok (.iastore, 1) := by decide +kernel
theorem dX11_layTogether_28 : decode cX11_layTogether 28 = .ok (.iconst 0, 1) := by decide +kernel
theorem dX11_layTogether_29 : decode cX11_layTogether 29 = .ok (.istore_n 3, 1) := by decide +kernel
theorem dX11_layTogether_30 : decode cX11_layTogether 30 = .ok (.iload_n 3, 1) := by decide +kernel
theorem dX11_layTogether_31 : decode cX11_layTogether 31 = .ok (.aload_n 0, 1) := by decide +kernel
theorem dX11_layTogether_32 : decode cX11_layTogether 32 = .ok (.getfield 19, 3) := by decide +kernel
theorem dX11_layTogether_35 : decode cX11_layTogether 35 = .ok (.iconst 3, 1) := by decide +kernel
theorem dX11_layTogether_36 : decode cX11_layTogether 36 = .ok (.iaload, 1) := by decide +kernel
theorem dX11_layTogether_37 : decode cX11_layTogether 37 = .ok (.if_icmp .ge 36, 3) := by decide +kernel
theorem dX11_layTogether_40 : decode cX11_layTogether 40 = .ok (.aload_n 0, 1) := by decide +kernel
theorem dX11_layTogether_41 : decode cX11_layTogether 41 = .ok (.getfield 34, 3) := by decide +kernel
theorem dX11_layTogether_44 : decode cX11_layTogether 44 = .ok (.iload_n 2, 1) := by decide +kernel
theorem dX11_layTogether_45 : decode cX11_layTogether 45 = .ok (.dup2, 1) := by decide +kernel
theorem dX11_layTogether_46 : decode cX11_layTogether 46 = .ok (.iaload, 1) := by decide +kernel
theorem dX11_layTogether_47 : decode cX11_layTogether 47 = .ok (.iload_n 2, 1) := by decide +kernel
theorem dX11_layTogether_48 : decode cX11_layTogether 48 = .ok (.iload_n 3, 1) := by decide +kernel
theorem dX11_layTogether_49 : decode cX11_layTogether 49 = .ok (.ishr, 1) := by decide +kernel
theorem dX11_layTogether_50 : decode cX11_layTogether 50 = .ok (.iconst 1, 1) := by decide +kernel
theorem dX11_layTogether_51 : decode cX11_layTogether 51 = .ok (.iand, 1) := by decide +kernel
theorem dX11_layTogether_52 : decode cX11_layTogether 52 = .ok (.iconst 1, 1) := by decide +kernel
theorem dX11_layTogether_53 : decode cX11_layTogether 53 = .ok (.if_icmp .ne 11, 3) := by decide +kernel
theorem dX11_layTogether_56 : decode cX11_layTogether 56 = .ok (.aload_n 0, 1) := by decide +kernel
theorem dX11_layTogether_57 : decode cX11_layTogether 57 = .ok (.iload_n 3, 1) := by decide +kernel
theorem dX11_layTogether_58 : decode cX11_layTogether 58 = .ok (.invokevirtual 200, 3) := by decide +kernel
theorem dX11_layTogether_61 : decode cX11_layTogether 61 = .ok (.goto 4, 3) := by decide +kernel
theorem dX11_layTogether_64 : decode cX11_layTogether 64 = .ok (.iconst 0, 1) := by decide +kernel
theorem dX11_layTogether_65 : decode cX11_layTogether 65 = .ok (.iadd, 1) := by decide +kernel
theorem dX11_layTogether_66 : decode cX11_layTogether 66 = .ok (.iastore, 1) := by decide +kernel
theorem dX11_layTogether_67 : decode cX11_layTogether 67 = .ok (.iinc 3 1, 3) := by decide +kernel
theorem dX11_layTogether_70 : decode cX11_layTogether 70 = .ok (.goto (-40), 3) := by decide +kernel
theorem dX11_layTogether_73 : decode cX11_layTogether 73 = .ok (.iload_n 2, 1) := by decide +kernel
theorem dX11_layTogether_74 : decode cX11_layTogether 74 = .ok (.istore_n 3, 1) := by decide +kernel
theorem dX11_layTogether_75 : decode cX11_layTogether 75 = .ok (.iload_n 3, 1) := by decide +kernel
theorem dX11_layTogether_76 : decode cX11_layTogether 76 = .ok (.ifCond .le 68, 3) := by decide +kernel
theorem dX11_layTogether_79 : decode cX11_layTogether 79 = .ok (.aload_n 0, 1) := by decide +kernel
theorem dX11_layTogether_80 : decode cX11_layTogether 80 = .ok (.getfield 34, 3) := by decide +kernel
theorem dX11_layTogether_83 : decode cX11_layTogether 83 = .ok (.iload_n 3, 1) := by decide +kernel
theorem dX11_layTogether_84 : decode cX11_layTogether 84 = .ok (.iaload, 1) := by decide +kernel
theorem dX11_layTogether_85 : decode cX11_layTogether 85 = .ok (.iload_n 1, 1) := by decide +kernel
theorem dX11_layTogether_86 : decode cX11_layTogether 86 = .ok (.if_icmp .lt 18, 3) := by decide +kernel
theorem dX11_layTogether_89 : decode cX11_layTogether 89 = .ok (.aload_n 0, 1) := by decide +kernel
theorem dX11_layTogether_90 : decode cX11_layTogether 90 = .ok (.getfield 37, 3) := by decide +kernel
theorem dX11_layTogether_93 : decode cX11_layTogether 93 = .ok (.iload_n 2, 1) := by decide +kernel
theorem dX11_layTogether_94 : decode cX11_layTogether 94 = .ok (.iload_n 3, 1) := by decide +kernel
theorem dX11_layTogether_95 : decode cX11_layTogether 95 = .ok (.iconst (-1), 1) := by decide +kernel
theorem dX11_layTogether_96 : decode cX11_layTogether 96 = .ok (.ixor, 1) := by decide +kernel
theorem dX11_layTogether_97 : decode cX11_layTogether 97 = .ok (.iand, 1) := by decide +kernel
theorem dX11_layTogether_98 : decode cX11_layTogether 98 = .ok (.iaload, 1) := by decide +kernel
theorem dX11_layTogether_99 : decode cX11_layTogether 99 = .ok (.iconst 1, 1) := by decide +kernel
theorem dX11_layTogether_100 : decode cX11_layTogether 100 = .ok (.iadd, 1) := by decide +kernel
theorem dX11_layTogether_101 : decode cX11_layTogether 101 = .ok (.goto 4, 3) := by decide +kernel
theorem dX11_layTogether_104 : decode cX11_layTogether 104 = .ok (.iconst 0, 1) := by decide +kernel
theorem dX11_layTogether_105 : decode cX11_layTogether 105 = .ok (.istore 4, 2) := by decide +kernel
theorem dX11_layTogether_107 : decode cX11_layTogether 107 = .ok (.aload_n 0, 1) := by decide +kernel
theorem dX11_layTogether_108 : decode cX11_layTogether 108 = .ok (.getfield 37, 3) := by decide +kernel
theorem dX11_layTogether_111 : decode cX11_layTogether 111 = .ok (.iload_n 2, 1) := by decide +kernel
theorem dX11_layTogether_112 : decode cX11_layTogether 112 = .ok (.iload 4, 2) := by decide +kernel
theorem dX11_layTogether_114 : decode cX11_layTogether 114 = .ok (.aload_n 0, 1) := by decide +kernel
theorem dX11_layTogether_115 : decode cX11_layTogether 115 = .ok (.getfield 37, 3) := by decide +kernel
theorem dX11_layTogether_118 : decode cX11_layTogether 118 = .ok (.iload_n 2, 1) := by decide +kernel
theorem dX11_layTogether_119 : decode cX11_layTogether 119 = .ok (.iaload, 1) := by decide +kernel
theorem dX11_layTogether_120 : decode cX11_layTogether 120 = .ok (.if_icmp .le 8, 3) := by decide +kernel
theorem dX11_layTogether_123 : decode cX11_layTogether 123 = .ok (.iload 4, 2) := by decide +kernel
theorem dX11_layTogether_125 : decode cX11_layTogether 125 = .ok (.goto 9, 3) := by decide +kernel
theorem dX11_layTogether_128 : decode cX11_layTogether 128 = .ok (.aload_n 0, 1) := by decide +kernel
theorem dX11_layTogether_129 : decode cX11_layTogether 129 = .ok (.getfield 37, 3) := by decide +kernel
theorem dX11_layTogether_132 : decode cX11_layTogether 132 = .ok (.iload_n 2, 1) := by decide +kernel
theorem dX11_layTogether_133 : decode cX11_layTogether 133 = .ok (.iaload, 1) := by decide +kernel
theorem dX11_layTogether_134 : decode cX11_layTogether 134 = .ok (.iastore, 1) := by decide +kernel
theorem dX11_layTogether_135 : decode cX11_layTogether 135 = .ok (.iload_n 3, 1) := by decide +kernel
theorem dX11_layTogether_136 : decode cX11_layTogether 136 = .ok (.iconst 1, 1) := by decide +kernel
theorem dX11_layTogether_137 : decode cX11_layTogether 137 = .ok (.isub, 1) := by decide +kernel
theorem dX11_layTogether_138 : decode cX11_layTogether 138 = .ok (.iload_n 2, 1) := by decide +kernel
theorem dX11_layTogether_139 : decode cX11_layTogether 139 = .ok (.iand, 1) := by decide +kernel
theorem dX11_layTogether_140 : decode cX11_layTogether 140 = .ok (.istore_n 3, 1) := by decide +kernel
theorem dX11_layTogether_141 : decode cX11_layTogether 141 = .ok (.goto (-66), 3) := by decide +kernel
theorem dX11_layTogether_144 : decode cX11_layTogether 144 = .ok (.iinc 2 1, 3) := by decide +kernel
theorem dX11_layTogether_147 : decode cX11_layTogether 147 = .ok (.goto (-145), 3) := by decide +kernel
theorem dX11_layTogether_150 : decode cX11_layTogether 150 = .ok (.return_, 1) := by decide +kernel
theorem dX11_costOf_0 : decode cX11_costOf 0 = .ok (.iconst 0, 1) := by decide +kernel
theorem dX11_costOf_1 : decode cX11_costOf 1 = .ok (.istore_n 2, 1) := by decide +kernel
theorem dX11_costOf_2 : decode cX11_costOf 2 = .ok (.iconst 0, 1) := by decide +kernel
theorem dX11_costOf_3 : decode cX11_costOf 3 = .ok (.istore_n 3, 1) := by decide +kernel
theorem dX11_costOf_4 : decode cX11_costOf 4 = .ok (.iload_n 3, 1) := by decide +kernel
theorem dX11_costOf_5 : decode cX11_costOf 5 = .ok (.aload_n 0, 1) := by decide +kernel
theorem dX11_costOf_6 : decode cX11_costOf 6 = .ok (.getfield 19, 3) := by decide +kernel
theorem dX11_costOf_9 : decode cX11_costOf 9 = .ok (.iconst 3, 1) := by decide +kernel
theorem dX11_costOf_10 : decode cX11_costOf 10 = .ok (.iaload, 1) := by decide +kernel
theorem dX11_costOf_11 : decode cX11_costOf 11 = .ok (.if_icmp .ge 37, 3) := by decide +kernel
theorem dX11_costOf_14 : decode cX11_costOf 14 = .ok (.iload_n 2, 1) := by decide +kernel
theorem dX11_costOf_15 : decode cX11_costOf 15 = .ok (.iload_n 1, 1) := by decide +kernel
theorem dX11_costOf_16 : decode cX11_costOf 16 = .ok (.iload_n 3, 1) := by decide +kernel
theorem dX11_costOf_17 : decode cX11_costOf 17 = .ok (.ishr, 1) := by decide +kernel
theorem dX11_costOf_18 : decode cX11_costOf 18 = .ok (.iconst 1, 1) := by decide +kernel
theorem dX11_costOf_19 : decode cX11_costOf 19 = .ok (.iand, 1) := by decide +kernel
theorem dX11_costOf_20 : decode cX11_costOf 20 = .ok (.iconst 1, 1) := by decide +kernel
theorem dX11_costOf_21 : decode cX11_costOf 21 = .ok (.if_icmp .ne 18, 3) := by decide +kernel
theorem dX11_costOf_24 : decode cX11_costOf 24 = .ok (.aload_n 0, 1) := by decide +kernel
theorem dX11_costOf_25 : decode cX11_costOf 25 = .ok (.iload_n 3, 1) := by decide +kernel
theorem dX11_costOf_26 : decode cX11_costOf 26 = .ok (.invokevirtual 191, 3) := by decide +kernel
theorem dX11_costOf_29 : decode cX11_costOf 29 = .ok (.aload_n 0, 1) := by decide +kernel
theorem dX11_costOf_30 : decode cX11_costOf 30 = .ok (.iload_n 3, 1) := by decide +kernel
theorem dX11_costOf_31 : decode cX11_costOf 31 = .ok (.iconst 2, 1) := by decide +kernel
theorem dX11_costOf_32 : decode cX11_costOf 32 = .ok (.invokevirtual 188, 3) := by decide +kernel
theorem dX11_costOf_35 : decode cX11_costOf 35 = .ok (.imul, 1) := by decide +kernel
theorem dX11_costOf_36 : decode cX11_costOf 36 = .ok (.goto 4, 3) := by decide +kernel
theorem dX11_costOf_39 : decode cX11_costOf 39 = .ok (.iconst 0, 1) := by decide +kernel
theorem dX11_costOf_40 : decode cX11_costOf 40 = .ok (.iadd, 1) := by decide +kernel
theorem dX11_costOf_41 : decode cX11_costOf 41 = .ok (.istore_n 2, 1) := by decide +kernel
theorem dX11_costOf_42 : decode cX11_costOf 42 = .ok (.iinc 3 1, 3) := by decide +kernel
theorem dX11_costOf_45 : decode cX11_costOf 45 = .ok (.goto (-41), 3) := by decide +kernel
theorem dX11_costOf_48 : decode cX11_costOf 48 = .ok (.iload_n 2, 1) := by decide +kernel
theorem dX11_costOf_49 : decode cX11_costOf 49 = .ok (.ireturn, 1) := by decide +kernel
theorem dX11_cheapest_0 : decode cX11_cheapest 0 = .ok (.aload_n 0, 1) := by decide +kernel
theorem dX11_cheapest_1 : decode cX11_cheapest 1 = .ok (.iconst 0, 1) := by decide +kernel
theorem dX11_cheapest_2 : decode cX11_cheapest 2 = .ok (.putfield 50, 3) := by decide +kernel
theorem dX11_cheapest_5 : decode cX11_cheapest 5 = .ok (.aload_n 0, 1) := by decide +kernel
theorem dX11_cheapest_6 : decode cX11_cheapest 6 = .ok (.getfield 177, 3) := by decide +kernel
theorem dX11_cheapest_9 : decode cX11_cheapest 9 = .ok (.ifCond .ne 6, 3) := by decide +kernel
theorem dX11_cheapest_12 : decode cX11_cheapest 12 = .ok (.ldc 218, 2) := by decide +kernel
theorem dX11_cheapest_14 : decode cX11_cheapest 14 = .ok (.ireturn, 1) := by decide +kernel
theorem dX11_cheapest_15 : decode cX11_cheapest 15 = .ok (.iload_n 1, 1) := by decide +kernel
theorem dX11_cheapest_16 : decode cX11_cheapest 16 = .ok (.invokestatic 227, 3) := by decide +kernel
theorem dX11_cheapest_19 : decode cX11_cheapest 19 = .ok (.ifCond .eq 13, 3) := by decide +kernel
theorem dX11_cheapest_22 : decode cX11_cheapest 22 = .ok (.iload_n 2, 1) := by decide +kernel
theorem dX11_cheapest_23 : decode cX11_cheapest 23 = .ok (.i2l, 1) := by decide +kernel
theorem dX11_cheapest_24 : decode cX11_cheapest 24 = .ok (.lconst 0, 1) := by decide +kernel
theorem dX11_cheapest_25 : decode cX11_cheapest 25 = .ok (.lconst 1, 1) := by decide +kernel
theorem dX11_cheapest_26 : decode cX11_cheapest 26 = .ok (.invokestatic 60, 3) := by decide +kernel
theorem dX11_cheapest_29 : decode cX11_cheapest 29 = .ok (.ifCond .ne 6, 3) := by decide +kernel
theorem dX11_cheapest_32 : decode cX11_cheapest 32 = .ok (.ldc 70, 2) := by decide +kernel
theorem dX11_cheapest_34 : decode cX11_cheapest 34 = .ok (.ireturn, 1) := by decide +kernel
theorem dX11_cheapest_35 : decode cX11_cheapest 35 = .ok (.iload_n 1, 1) := by decide +kernel
theorem dX11_cheapest_36 : decode cX11_cheapest 36 = .ok (.ifCond .ne 5, 3) := by decide +kernel
theorem dX11_cheapest_39 : decode cX11_cheapest 39 = .ok (.iconst 0, 1) := by decide +kernel
theorem dX11_cheapest_40 : decode cX11_cheapest 40 = .ok (.ireturn, 1) := by decide +kernel
theorem dX11_cheapest_41 : decode cX11_cheapest 41 = .ok (.aload_n 0, 1) := by decide +kernel
theorem dX11_cheapest_42 : decode cX11_cheapest 42 = .ok (.iload_n 1, 1) := by decide +kernel
theorem dX11_cheapest_43 : decode cX11_cheapest 43 = .ok (.iconst 2, 1) := by decide +kernel
theorem dX11_cheapest_44 : decode cX11_cheapest 44 = .ok (.iadd, 1) := by decide +kernel
theorem dX11_cheapest_45 : decode cX11_cheapest 45 = .ok (.iconst 3, 1) := by decide +kernel
theorem dX11_cheapest_46 : decode cX11_cheapest 46 = .ok (.idiv, 1) := by decide +kernel
theorem dX11_cheapest_47 : decode cX11_cheapest 47 = .ok (.invokevirtual 258, 3) := by decide +kernel
theorem dX11_cheapest_50 : decode cX11_cheapest 50 = .ok (.ldc 86, 2) := by decide +kernel
theorem dX11_cheapest_52 : decode cX11_cheapest 52 = .ok (.istore_n 3, 1) := by decide +kernel
theorem dX11_cheapest_53 : decode cX11_cheapest 53 = .ok (.iconst 0, 1) := by decide +kernel
theorem dX11_cheapest_54 : decode cX11_cheapest 54 = .ok (.istore 4, 2) := by decide +kernel
theorem dX11_cheapest_56 : decode cX11_cheapest 56 = .ok (.iload 4, 2) := by decide +kernel
theorem dX11_cheapest_58 : decode cX11_cheapest 58 = .ok (.iconst 1, 1) := by decide +kernel
theorem dX11_cheapest_59 : decode cX11_cheapest 59 = .ok (.aload_n 0, 1) := by decide +kernel
theorem dX11_cheapest_60 : decode cX11_cheapest 60 = .ok (.getfield 19, 3) := by decide +kernel
theorem dX11_cheapest_63 : decode cX11_cheapest 63 = .ok (.iconst 3, 1) := by decide +kernel
theorem dX11_cheapest_64 : decode cX11_cheapest 64 = .ok (.iaload, 1) := by decide +kernel
theorem dX11_cheapest_65 : decode cX11_cheapest 65 = .ok (.ishl, 1) := by decide +kernel
theorem dX11_cheapest_66 : decode cX11_cheapest 66 = .ok (.if_icmp .ge 59, 3) := by decide +kernel
theorem dX11_cheapest_69 : decode cX11_cheapest 69 = .ok (.aload_n 0, 1) := by decide +kernel
theorem dX11_cheapest_70 : decode cX11_cheapest 70 = .ok (.getfield 37, 3) := by decide +kernel
theorem dX11_cheapest_73 : decode cX11_cheapest 73 = .ok (.iload 4, 2) := by decide +kernel
theorem dX11_cheapest_75 : decode cX11_cheapest 75 = .ok (.iaload, 1) := by decide +kernel
theorem dX11_cheapest_76 : decode cX11_cheapest 76 = .ok (.iconst 3, 1) := by decide +kernel
theorem dX11_cheapest_77 : decode cX11_cheapest 77 = .ok (.if_icmp .lt 7, 3) := by decide +kernel
theorem dX11_cheapest_80 : decode cX11_cheapest 80 = .ok (.iconst 1, 1) := by decide +kernel
theorem dX11_cheapest_81 : decode cX11_cheapest 81 = .ok (.goto 4, 3) := by decide +kernel
theorem dX11_cheapest_84 : decode cX11_cheapest 84 = .ok (.iconst 0, 1) := by decide +kernel
theorem dX11_cheapest_85 : decode cX11_cheapest 85 = .ok (.istore 5, 2) := by decide +kernel
theorem dX11_cheapest_87 : decode cX11_cheapest 87 = .ok (.iload 5, 2) := by decide +kernel
theorem dX11_cheapest_89 : decode cX11_cheapest 89 = .ok (.ifCond .eq 28, 3) := by decide +kernel
theorem dX11_cheapest_92 : decode cX11_cheapest 92 = .ok (.iload_n 3, 1) := by decide +kernel
theorem dX11_cheapest_93 : decode cX11_cheapest 93 = .ok (.ldc 86, 2) := by decide +kernel
theorem dX11_cheapest_95 : decode cX11_cheapest 95 = .ok (.if_icmp .eq 17, 3) := by decide +kernel
theorem dX11_cheapest_98 : decode cX11_cheapest 98 = .ok (.aload_n 0, 1) := by decide +kernel
theorem dX11_cheapest_99 : decode cX11_cheapest 99 = .ok (.iload 4, 2) := by decide +kernel
theorem dX11_cheapest_101 : decode cX11_cheapest 101 = .ok (.invokevirtual 261, 3) := by decide +kernel
theorem dX11_cheapest_104 : decode cX11_cheapest 104 = .ok (.aload_n 0, 1) := by decide +kernel
theorem dX11_cheapest_105 : decode cX11_cheapest 105 = .ok (.iload_n 3, 1) := by decide +kernel
theorem dX11_cheapest_106 : decode cX11_cheapest 106 = .ok (.invokevirtual 261, 3) := by decide +kernel
theorem dX11_cheapest_109 : decode cX11_cheapest 109 = .ok (.if_icmp .ge 8, 3) := by decide +kernel
theorem dX11_cheapest_112 : decode cX11_cheapest 112 = .ok (.iload 4, 2) := by decide +kernel
theorem dX11_cheapest_114 : decode cX11_cheapest 114 = .ok (.goto 4, 3) := by decide +kernel
theorem dX11_cheapest_117 : decode cX11_cheapest 117 = .ok (.iload_n 3, 1) := by decide +kernel
theorem dX11_cheapest_118 : decode cX11_cheapest 118 = .ok (.istore_n 3, 1) := by decide +kernel
theorem dX11_cheapest_119 : decode cX11_cheapest 119 = .ok (.iinc 4 1, 3) := by decide +kernel
theorem dX11_cheapest_122 : decode cX11_cheapest 122 = .ok (.goto (-66), 3) := by decide +kernel
theorem dX11_cheapest_125 : decode cX11_cheapest 125 = .ok (.iload_n 3, 1) := by decide +kernel
theorem dX11_cheapest_126 : decode cX11_cheapest 126 = .ok (.ldc 86, 2) := by decide +kernel
theorem dX11_cheapest_128 : decode cX11_cheapest 128 = .ok (.if_icmp .eq 8, 3) := by decide +kernel
theorem dX11_cheapest_131 : decode cX11_cheapest 131 = .ok (.iload_n 2, 1) := by decide +kernel
theorem dX11_cheapest_132 : decode cX11_cheapest 132 = .ok (.iconst 1, 1) := by decide +kernel
theorem dX11_cheapest_133 : decode cX11_cheapest 133 = .ok (.if_icmp .ne 7, 3) := by decide +kernel
theorem dX11_cheapest_136 : decode cX11_cheapest 136 = .ok (.iload_n 3, 1) := by decide +kernel
theorem dX11_cheapest_137 : decode cX11_cheapest 137 = .ok (.goto 8, 3) := by decide +kernel
theorem dX11_cheapest_140 : decode cX11_cheapest 140 = .ok (.aload_n 0, 1) := by decide +kernel
theorem dX11_cheapest_141 : decode cX11_cheapest 141 = .ok (.iload_n 3, 1) := by decide +kernel
theorem dX11_cheapest_142 : decode cX11_cheapest 142 = .ok (.invokevirtual 261, 3) := by decide +kernel
theorem dX11_cheapest_145 : decode cX11_cheapest 145 = .ok (.ireturn, 1) := by decide +kernel
theorem dX11_bearsIf_0 : decode cX11_bearsIf 0 = .ok (.aload_n 0, 1) := by decide +kernel
theorem dX11_bearsIf_1 : decode cX11_bearsIf 1 = .ok (.invokevirtual 197, 3) := by decide +kernel
theorem dX11_bearsIf_4 : decode cX11_bearsIf 4 = .ok (.iconst 0, 1) := by decide +kernel
theorem dX11_bearsIf_5 : decode cX11_bearsIf 5 = .ok (.istore_n 2, 1) := by decide +kernel
theorem dX11_bearsIf_6 : decode cX11_bearsIf 6 = .ok (.iload_n 2, 1) := by decide +kernel
theorem dX11_bearsIf_7 : decode cX11_bearsIf 7 = .ok (.aload_n 0, 1) := by decide +kernel
theorem dX11_bearsIf_8 : decode cX11_bearsIf 8 = .ok (.getfield 19, 3) := by decide +kernel
theorem dX11_bearsIf_11 : decode cX11_bearsIf 11 = .ok (.iconst 3, 1) := by decide +kernel
theorem dX11_bearsIf_12 : decode cX11_bearsIf 12 = .ok (.iaload, 1) := by decide +kernel
theorem dX11_bearsIf_13 : decode cX11_bearsIf 13 = .ok (.if_icmp .ge 71, 3) := by decide +kernel
theorem dX11_bearsIf_16 : decode cX11_bearsIf 16 = .ok (.aload_n 0, 1) := by decide +kernel
theorem dX11_bearsIf_17 : decode cX11_bearsIf 17 = .ok (.iload_n 2, 1) := by decide +kernel
theorem dX11_bearsIf_18 : decode cX11_bearsIf 18 = .ok (.iconst 4, 1) := by decide +kernel
theorem dX11_bearsIf_19 : decode cX11_bearsIf 19 = .ok (.invokevirtual 188, 3) := by decide +kernel
theorem dX11_bearsIf_22 : decode cX11_bearsIf 22 = .ok (.ifCond .eq 12, 3) := by decide +kernel
theorem dX11_bearsIf_25 : decode cX11_bearsIf 25 = .ok (.aload_n 0, 1) := by decide +kernel
theorem dX11_bearsIf_26 : decode cX11_bearsIf 26 = .ok (.iload_n 2, 1) := by decide +kernel
theorem dX11_bearsIf_27 : decode cX11_bearsIf 27 = .ok (.iconst 4, 1) := by decide +kernel
theorem dX11_bearsIf_28 : decode cX11_bearsIf 28 = .ok (.invokevirtual 188, 3) := by decide +kernel
theorem dX11_bearsIf_31 : decode cX11_bearsIf 31 = .ok (.goto 17, 3) := by decide +kernel
theorem dX11_bearsIf_34 : decode cX11_bearsIf 34 = .ok (.iload_n 1, 1) := by decide +kernel
theorem dX11_bearsIf_35 : decode cX11_bearsIf 35 = .ok (.iload_n 2, 1) := by decide +kernel
theorem dX11_bearsIf_36 : decode cX11_bearsIf 36 = .ok (.ishr, 1) := by decide +kernel
theorem dX11_bearsIf_37 : decode cX11_bearsIf 37 = .ok (.iconst 1, 1) := by decide +kernel
theorem dX11_bearsIf_38 : decode cX11_bearsIf 38 = .ok (.iand, 1) := by decide +kernel
theorem dX11_bearsIf_39 : decode cX11_bearsIf 39 = .ok (.iconst 1, 1) := by decide +kernel
theorem dX11_bearsIf_40 : decode cX11_bearsIf 40 = .ok (.if_icmp .ne 7, 3) := by decide +kernel
theorem dX11_bearsIf_43 : decode cX11_bearsIf 43 = .ok (.iconst 1, 1) := by decide +kernel
theorem dX11_bearsIf_44 : decode cX11_bearsIf 44 = .ok (.goto 4, 3) := by decide +kernel
theorem dX11_bearsIf_47 : decode cX11_bearsIf 47 = .ok (.iconst 2, 1) := by decide +kernel
theorem dX11_bearsIf_48 : decode cX11_bearsIf 48 = .ok (.istore_n 3, 1) := by decide +kernel
theorem dX11_bearsIf_49 : decode cX11_bearsIf 49 = .ok (.aload_n 0, 1) := by decide +kernel
theorem dX11_bearsIf_50 : decode cX11_bearsIf 50 = .ok (.iload_n 2, 1) := by decide +kernel
theorem dX11_bearsIf_51 : decode cX11_bearsIf 51 = .ok (.iconst 3, 1) := by decide +kernel
theorem dX11_bearsIf_52 : decode cX11_bearsIf 52 = .ok (.invokevirtual 188, 3) := by decide +kernel
theorem dX11_bearsIf_55 : decode cX11_bearsIf 55 = .ok (.ifCond .lt 23, 3) := by decide +kernel
theorem dX11_bearsIf_58 : decode cX11_bearsIf 58 = .ok (.aload_n 0, 1) := by decide +kernel
theorem dX11_bearsIf_59 : decode cX11_bearsIf 59 = .ok (.getfield 31, 3) := by decide +kernel
theorem dX11_bearsIf_62 : decode cX11_bearsIf 62 = .ok (.aload_n 0, 1) := by decide +kernel
theorem dX11_bearsIf_63 : decode cX11_bearsIf 63 = .ok (.iload_n 2, 1) := by decide +kernel
theorem dX11_bearsIf_64 : decode cX11_bearsIf 64 = .ok (.iconst 3, 1) := by decide +kernel
theorem dX11_bearsIf_65 : decode cX11_bearsIf 65 = .ok (.invokevirtual 188, 3) := by decide +kernel
theorem dX11_bearsIf_68 : decode cX11_bearsIf 68 = .ok (.dup2, 1) := by decide +kernel
theorem dX11_bearsIf_69 : decode cX11_bearsIf 69 = .ok (.iaload, 1) := by decide +kernel
theorem dX11_bearsIf_70 : decode cX11_bearsIf 70 = .ok (.aload_n 0, 1) := by decide +kernel
theorem dX11_bearsIf_71 : decode cX11_bearsIf 71 = .ok (.iload_n 2, 1) := by decide +kernel
theorem dX11_bearsIf_72 : decode cX11_bearsIf 72 = .ok (.iload_n 3, 1) := by decide +kernel
theorem dX11_bearsIf_73 : decode cX11_bearsIf 73 = .ok (.invokevirtual 194, 3) := by decide +kernel
theorem dX11_bearsIf_76 : decode cX11_bearsIf 76 = .ok (.iadd, 1) := by decide +kernel
theorem dX11_bearsIf_77 : decode cX11_bearsIf 77 = .ok (.iastore, 1) := by decide +kernel
theorem dX11_bearsIf_78 : decode cX11_bearsIf 78 = .ok (.iinc 2 1, 3) := by decide +kernel
theorem dX11_bearsIf_81 : decode cX11_bearsIf 81 = .ok (.goto (-75), 3) := by decide +kernel
theorem dX11_bearsIf_84 : decode cX11_bearsIf 84 = .ok (.aload_n 0, 1) := by decide +kernel
theorem dX11_bearsIf_85 : decode cX11_bearsIf 85 = .ok (.invokevirtual 239, 3) := by decide +kernel
theorem dX11_bearsIf_88 : decode cX11_bearsIf 88 = .ok (.ireturn, 1) := by decide +kernel
theorem dX11_tenthsOf_0 : decode cX11_tenthsOf 0 = .ok (.aload_n 0, 1) := by decide +kernel
theorem dX11_tenthsOf_1 : decode cX11_tenthsOf 1 = .ok (.iload_n 1, 1) := by decide +kernel
theorem dX11_tenthsOf_2 : decode cX11_tenthsOf 2 = .ok (.iconst 0, 1) := by decide +kernel
theorem dX11_tenthsOf_3 : decode cX11_tenthsOf 3 = .ok (.invokevirtual 188, 3) := by decide +kernel
theorem dX11_tenthsOf_6 : decode cX11_tenthsOf 6 = .ok (.iconst 2, 1) := by decide +kernel
theorem dX11_tenthsOf_7 : decode cX11_tenthsOf 7 = .ok (.if_icmp .ne 8, 3) := by decide +kernel
theorem dX11_tenthsOf_10 : decode cX11_tenthsOf 10 = .ok (.bipush 10, 2) := by decide +kernel
theorem dX11_tenthsOf_12 : decode cX11_tenthsOf 12 = .ok (.goto 22, 3) := by decide +kernel
theorem dX11_tenthsOf_15 : decode cX11_tenthsOf 15 = .ok (.aload_n 0, 1) := by decide +kernel
theorem dX11_tenthsOf_16 : decode cX11_tenthsOf 16 = .ok (.iload_n 1, 1) := by decide +kernel
theorem dX11_tenthsOf_17 : decode cX11_tenthsOf 17 = .ok (.iconst 0, 1) := by decide +kernel
theorem dX11_tenthsOf_18 : decode cX11_tenthsOf 18 = .ok (.invokevirtual 188, 3) := by decide +kernel
theorem dX11_tenthsOf_21 : decode cX11_tenthsOf 21 = .ok (.iconst 4, 1) := by decide +kernel
theorem dX11_tenthsOf_22 : decode cX11_tenthsOf 22 = .ok (.if_icmp .ne 7, 3) := by decide +kernel
theorem dX11_tenthsOf_25 : decode cX11_tenthsOf 25 = .ok (.iconst 0, 1) := by decide +kernel
theorem dX11_tenthsOf_26 : decode cX11_tenthsOf 26 = .ok (.goto 8, 3) := by decide +kernel
theorem dX11_tenthsOf_29 : decode cX11_tenthsOf 29 = .ok (.aload_n 0, 1) := by decide +kernel
theorem dX11_tenthsOf_30 : decode cX11_tenthsOf 30 = .ok (.iload_n 1, 1) := by decide +kernel
theorem dX11_tenthsOf_31 : decode cX11_tenthsOf 31 = .ok (.invokevirtual 242, 3) := by decide +kernel
theorem dX11_tenthsOf_34 : decode cX11_tenthsOf 34 = .ok (.ireturn, 1) := by decide +kernel
theorem dX11_odds_0 : decode cX11_odds 0 = .ok (.aload_n 0, 1) := by decide +kernel
theorem dX11_odds_1 : decode cX11_odds 1 = .ok (.iconst 0, 1) := by decide +kernel
theorem dX11_odds_2 : decode cX11_odds 2 = .ok (.putfield 50, 3) := by decide +kernel
theorem dX11_odds_5 : decode cX11_odds 5 = .ok (.aload_n 0, 1) := by decide +kernel
theorem dX11_odds_6 : decode cX11_odds 6 = .ok (.getfield 177, 3) := by decide +kernel
theorem dX11_odds_9 : decode cX11_odds 9 = .ok (.ifCond .ne 6, 3) := by decide +kernel
theorem dX11_odds_12 : decode cX11_odds 12 = .ok (.ldc 218, 2) := by decide +kernel
theorem dX11_odds_14 : decode cX11_odds 14 = .ok (.ireturn, 1) := by decide +kernel
theorem dX11_odds_15 : decode cX11_odds 15 = .ok (.iload_n 1, 1) := by decide +kernel
theorem dX11_odds_16 : decode cX11_odds 16 = .ok (.invokestatic 227, 3) := by decide +kernel
theorem dX11_odds_19 : decode cX11_odds 19 = .ok (.ifCond .eq 13, 3) := by decide +kernel
theorem dX11_odds_22 : decode cX11_odds 22 = .ok (.iload_n 2, 1) := by decide +kernel
theorem dX11_odds_23 : decode cX11_odds 23 = .ok (.i2l, 1) := by decide +kernel
theorem dX11_odds_24 : decode cX11_odds 24 = .ok (.lconst 0, 1) := by decide +kernel
theorem dX11_odds_25 : decode cX11_odds 25 = .ok (.lconst 1, 1) := by decide +kernel
theorem dX11_odds_26 : decode cX11_odds 26 = .ok (.invokestatic 60, 3) := by decide +kernel
theorem dX11_odds_29 : decode cX11_odds 29 = .ok (.ifCond .ne 6, 3) := by decide +kernel
theorem dX11_odds_32 : decode cX11_odds 32 = .ok (.ldc 70, 2) := by decide +kernel
theorem dX11_odds_34 : decode cX11_odds 34 = .ok (.ireturn, 1) := by decide +kernel
theorem dX11_odds_35 : decode cX11_odds 35 = .ok (.iconst 1, 1) := by decide +kernel
theorem dX11_odds_36 : decode cX11_odds 36 = .ok (.istore_n 3, 1) := by decide +kernel
theorem dX11_odds_37 : decode cX11_odds 37 = .ok (.iconst 0, 1) := by decide +kernel
theorem dX11_odds_38 : decode cX11_odds 38 = .ok (.istore 4, 2) := by decide +kernel
theorem dX11_odds_40 : decode cX11_odds 40 = .ok (.iload 4, 2) := by decide +kernel
theorem dX11_odds_42 : decode cX11_odds 42 = .ok (.aload_n 0, 1) := by decide +kernel
theorem dX11_odds_43 : decode cX11_odds 43 = .ok (.getfield 19, 3) := by decide +kernel
theorem dX11_odds_46 : decode cX11_odds 46 = .ok (.iconst 3, 1) := by decide +kernel
theorem dX11_odds_47 : decode cX11_odds 47 = .ok (.iaload, 1) := by decide +kernel
theorem dX11_odds_48 : decode cX11_odds 48 = .ok (.if_icmp .ge 28, 3) := by decide +kernel
theorem dX11_odds_51 : decode cX11_odds 51 = .ok (.iload_n 3, 1) := by decide +kernel
theorem dX11_odds_52 : decode cX11_odds 52 = .ok (.aload_n 0, 1) := by decide +kernel
theorem dX11_odds_53 : decode cX11_odds 53 = .ok (.iload 4, 2) := by decide +kernel
theorem dX11_odds_55 : decode cX11_odds 55 = .ok (.iconst 4, 1) := by decide +kernel
theorem dX11_odds_56 : decode cX11_odds 56 = .ok (.invokevirtual 188, 3) := by decide +kernel
theorem dX11_odds_59 : decode cX11_odds 59 = .ok (.ifCond .ne 8, 3) := by decide +kernel
theorem dX11_odds_62 : decode cX11_odds 62 = .ok (.bipush 10, 2) := by decide +kernel
theorem dX11_odds_64 : decode cX11_odds 64 = .ok (.goto 4, 3) := by decide +kernel
theorem dX11_odds_67 : decode cX11_odds 67 = .ok (.iconst 1, 1) := by decide +kernel
theorem dX11_odds_68 : decode cX11_odds 68 = .ok (.imul, 1) := by decide +kernel
theorem dX11_odds_69 : decode cX11_odds 69 = .ok (.istore_n 3, 1) := by decide +kernel
theorem dX11_odds_70 : decode cX11_odds 70 = .ok (.iinc 4 1, 3) := by decide +kernel
theorem dX11_odds_73 : decode cX11_odds 73 = .ok (.goto (-33), 3) := by decide +kernel
theorem dX11_odds_76 : decode cX11_odds 76 = .ok (.iconst 0, 1) := by decide +kernel
theorem dX11_odds_77 : decode cX11_odds 77 = .ok (.istore 4, 2) := by decide +kernel
theorem dX11_odds_79 : decode cX11_odds 79 = .ok (.iconst 0, 1) := by decide +kernel
theorem dX11_odds_80 : decode cX11_odds 80 = .ok (.istore 5, 2) := by decide +kernel
theorem dX11_odds_82 : decode cX11_odds 82 = .ok (.iload 5, 2) := by decide +kernel
theorem dX11_odds_84 : decode cX11_odds 84 = .ok (.iconst 1, 1) := by decide +kernel
theorem dX11_odds_85 : decode cX11_odds 85 = .ok (.aload_n 0, 1) := by decide +kernel
theorem dX11_odds_86 : decode cX11_odds 86 = .ok (.getfield 19, 3) := by decide +kernel
theorem dX11_odds_89 : decode cX11_odds 89 = .ok (.iconst 3, 1) := by decide +kernel
theorem dX11_odds_90 : decode cX11_odds 90 = .ok (.iaload, 1) := by decide +kernel
theorem dX11_odds_91 : decode cX11_odds 91 = .ok (.ishl, 1) := by decide +kernel
theorem dX11_odds_92 : decode cX11_odds 92 = .ok (.if_icmp .ge 127, 3) := by decide +kernel
theorem dX11_odds_95 : decode cX11_odds 95 = .ok (.iconst 1, 1) := by decide +kernel
theorem dX11_odds_96 : decode cX11_odds 96 = .ok (.istore 6, 2) := by decide +kernel
theorem dX11_odds_98 : decode cX11_odds 98 = .ok (.iconst 0, 1) := by decide +kernel
theorem dX11_odds_99 : decode cX11_odds 99 = .ok (.istore 7, 2) := by decide +kernel
theorem dX11_odds_101 : decode cX11_odds 101 = .ok (.iload 7, 2) := by decide +kernel
theorem dX11_odds_103 : decode cX11_odds 103 = .ok (.aload_n 0, 1) := by decide +kernel
theorem dX11_odds_104 : decode cX11_odds 104 = .ok (.getfield 19, 3) := by decide +kernel
theorem dX11_odds_107 : decode cX11_odds 107 = .ok (.iconst 3, 1) := by decide +kernel
theorem dX11_odds_108 : decode cX11_odds 108 = .ok (.iaload, 1) := by decide +kernel
theorem dX11_odds_109 : decode cX11_odds 109 = .ok (.if_icmp .ge 78, 3) := by decide +kernel
theorem dX11_odds_112 : decode cX11_odds 112 = .ok (.iload 5, 2) := by decide +kernel
theorem dX11_odds_114 : decode cX11_odds 114 = .ok (.iload 7, 2) := by decide +kernel
theorem dX11_odds_116 : decode cX11_odds 116 = .ok (.ishr, 1) := by decide +kernel
theorem dX11_odds_117 : decode cX11_odds 117 = .ok (.iconst 1, 1) := by decide +kernel
theorem dX11_odds_118 : decode cX11_odds 118 = .ok (.iand, 1) := by decide +kernel
theorem dX11_odds_119 : decode cX11_odds 119 = .ok (.iconst 1, 1) := by decide +kernel
theorem dX11_odds_120 : decode cX11_odds 120 = .ok (.if_icmp .ne 7, 3) := by decide +kernel
theorem dX11_odds_123 : decode cX11_odds 123 = .ok (.iconst 1, 1) := by decide +kernel
theorem dX11_odds_124 : decode cX11_odds 124 = .ok (.goto 4, 3) := by decide +kernel
theorem dX11_odds_127 : decode cX11_odds 127 = .ok (.iconst 0, 1) := by decide +kernel
theorem dX11_odds_128 : decode cX11_odds 128 = .ok (.istore 8, 2) := by decide +kernel
theorem dX11_odds_130 : decode cX11_odds 130 = .ok (.iload 6, 2) := by decide +kernel
theorem dX11_odds_132 : decode cX11_odds 132 = .ok (.aload_n 0, 1) := by decide +kernel
theorem dX11_odds_133 : decode cX11_odds 133 = .ok (.iload 7, 2) := by decide +kernel
theorem dX11_odds_135 : decode cX11_odds 135 = .ok (.iconst 4, 1) := by decide +kernel
theorem dX11_odds_136 : decode cX11_odds 136 = .ok (.invokevirtual 188, 3) := by decide +kernel
theorem dX11_odds_139 : decode cX11_odds 139 = .ok (.ifCond .eq 16, 3) := by decide +kernel
theorem dX11_odds_142 : decode cX11_odds 142 = .ok (.iload 8, 2) := by decide +kernel
theorem dX11_odds_144 : decode cX11_odds 144 = .ok (.ifCond .eq 7, 3) := by decide +kernel
theorem dX11_odds_147 : decode cX11_odds 147 = .ok (.iconst 1, 1) := by decide +kernel
theorem dX11_odds_148 : decode cX11_odds 148 = .ok (.goto 30, 3) := by decide +kernel
theorem dX11_odds_151 : decode cX11_odds 151 = .ok (.iconst 0, 1) := by decide +kernel
theorem dX11_odds_152 : decode cX11_odds 152 = .ok (.goto 26, 3) := by decide +kernel
theorem dX11_odds_155 : decode cX11_odds 155 = .ok (.iload 8, 2) := by decide +kernel
theorem dX11_odds_157 : decode cX11_odds 157 = .ok (.ifCond .eq 12, 3) := by decide +kernel
theorem dX11_odds_160 : decode cX11_odds 160 = .ok (.aload_n 0, 1) := by decide +kernel
theorem dX11_odds_161 : decode cX11_odds 161 = .ok (.iload 7, 2) := by decide +kernel
theorem dX11_odds_163 : decode cX11_odds 163 = .ok (.invokevirtual 264, 3) := by decide +kernel
theorem dX11_odds_166 : decode cX11_odds 166 = .ok (.goto 12, 3) := by decide +kernel
theorem dX11_odds_169 : decode cX11_odds 169 = .ok (.bipush 10, 2) := by decide +kernel
theorem dX11_odds_171 : decode cX11_odds 171 = .ok (.aload_n 0, 1) := by decide +kernel
theorem dX11_odds_172 : decode cX11_odds 172 = .ok (.iload 7, 2) := by decide +kernel
theorem dX11_odds_174 : decode cX11_odds 174 = .ok (.invokevirtual 264, 3) := by decide +kernel
theorem dX11_odds_177 : decode cX11_odds 177 = .ok (.isub, 1) := by decide +kernel
theorem dX11_odds_178 : decode cX11_odds 178 = .ok (.imul, 1) := by decide +kernel
theorem dX11_odds_179 : decode cX11_odds 179 = .ok (.istore 6, 2) := by decide +kernel
theorem dX11_odds_181 : decode cX11_odds 181 = .ok (.iinc 7 1, 3) := by decide +kernel
theorem dX11_odds_184 : decode cX11_odds 184 = .ok (.goto (-83), 3) := by decide +kernel
theorem dX11_odds_187 : decode cX11_odds 187 = .ok (.iload 4, 2) := by decide +kernel
theorem dX11_odds_189 : decode cX11_odds 189 = .ok (.iload 6, 2) := by decide +kernel
theorem dX11_odds_191 : decode cX11_odds 191 = .ok (.ifCond .le 18, 3) := by decide +kernel
theorem dX11_odds_194 : decode cX11_odds 194 = .ok (.aload_n 0, 1) := by decide +kernel
theorem dX11_odds_195 : decode cX11_odds 195 = .ok (.iload 5, 2) := by decide +kernel
theorem dX11_odds_197 : decode cX11_odds 197 = .ok (.invokevirtual 267, 3) := by decide +kernel
theorem dX11_odds_200 : decode cX11_odds 200 = .ok (.iload_n 1, 1) := by decide +kernel
theorem dX11_odds_201 : decode cX11_odds 201 = .ok (.if_icmp .lt 8, 3) := by decide +kernel
theorem dX11_odds_204 : decode cX11_odds 204 = .ok (.iload 6, 2) := by decide +kernel
theorem dX11_odds_206 : decode cX11_odds 206 = .ok (.goto 4, 3) := by decide +kernel
theorem dX11_odds_209 : decode cX11_odds 209 = .ok (.iconst 0, 1) := by decide +kernel
theorem dX11_odds_210 : decode cX11_odds 210 = .ok (.iadd, 1) := by decide +kernel
theorem dX11_odds_211 : decode cX11_odds 211 = .ok (.istore 4, 2) := by decide +kernel
theorem dX11_odds_213 : decode cX11_odds 213 = .ok (.iinc 5 1, 3) := by decide +kernel
theorem dX11_odds_216 : decode cX11_odds 216 = .ok (.goto (-134), 3) := by decide +kernel
theorem dX11_odds_219 : decode cX11_odds 219 = .ok (.iload 4, 2) := by decide +kernel
theorem dX11_odds_221 : decode cX11_odds 221 = .ok (.istore 5, 2) := by decide +kernel
theorem dX11_odds_223 : decode cX11_odds 223 = .ok (.iload_n 3, 1) := by decide +kernel
theorem dX11_odds_224 : decode cX11_odds 224 = .ok (.istore 6, 2) := by decide +kernel
theorem dX11_odds_226 : decode cX11_odds 226 = .ok (.iload 6, 2) := by decide +kernel
theorem dX11_odds_228 : decode cX11_odds 228 = .ok (.ifCond .eq 21, 3) := by decide +kernel
theorem dX11_odds_231 : decode cX11_odds 231 = .ok (.iload 5, 2) := by decide +kernel
theorem dX11_odds_233 : decode cX11_odds 233 = .ok (.iload 6, 2) := by decide +kernel
theorem dX11_odds_235 : decode cX11_odds 235 = .ok (.irem, 1) := by decide +kernel
theorem dX11_odds_236 : decode cX11_odds 236 = .ok (.istore 7, 2) := by decide +kernel
theorem dX11_odds_238 : decode cX11_odds 238 = .ok (.iload 6, 2) := by decide +kernel
theorem dX11_odds_240 : decode cX11_odds 240 = .ok (.istore 5, 2) := by decide +kernel
theorem dX11_odds_242 : decode cX11_odds 242 = .ok (.iload 7, 2) := by decide +kernel
theorem dX11_odds_244 : decode cX11_odds 244 = .ok (.istore 6, 2) := by decide +kernel
theorem dX11_odds_246 : decode cX11_odds 246 = .ok (.goto (-20), 3) := by decide +kernel
theorem dX11_odds_249 : decode cX11_odds 249 = .ok (.iload_n 2, 1) := by decide +kernel
theorem dX11_odds_250 : decode cX11_odds 250 = .ok (.ifCond .ne 8, 3) := by decide +kernel
theorem dX11_odds_253 : decode cX11_odds 253 = .ok (.iload 4, 2) := by decide +kernel
theorem dX11_odds_255 : decode cX11_odds 255 = .ok (.goto 4, 3) := by decide +kernel
theorem dX11_odds_258 : decode cX11_odds 258 = .ok (.iload_n 3, 1) := by decide +kernel
theorem dX11_odds_259 : decode cX11_odds 259 = .ok (.iload 5, 2) := by decide +kernel
theorem dX11_odds_261 : decode cX11_odds 261 = .ok (.idiv, 1) := by decide +kernel
theorem dX11_odds_262 : decode cX11_odds 262 = .ok (.ireturn, 1) := by decide +kernel
theorem dX11_risk_0 : decode cX11_risk 0 = .ok (.aload_n 0, 1) := by decide +kernel
theorem dX11_risk_1 : decode cX11_risk 1 = .ok (.iconst 0, 1) := by decide +kernel
theorem dX11_risk_2 : decode cX11_risk 2 = .ok (.putfield 50, 3) := by decide +kernel
theorem dX11_risk_5 : decode cX11_risk 5 = .ok (.aload_n 0, 1) := by decide +kernel
theorem dX11_risk_6 : decode cX11_risk 6 = .ok (.getfield 177, 3) := by decide +kernel
theorem dX11_risk_9 : decode cX11_risk 9 = .ok (.ifCond .ne 6, 3) := by decide +kernel
theorem dX11_risk_12 : decode cX11_risk 12 = .ok (.ldc 218, 2) := by decide +kernel
theorem dX11_risk_14 : decode cX11_risk 14 = .ok (.ireturn, 1) := by decide +kernel
theorem dX11_risk_15 : decode cX11_risk 15 = .ok (.iload_n 1, 1) := by decide +kernel
theorem dX11_risk_16 : decode cX11_risk 16 = .ok (.invokestatic 64, 3) := by decide +kernel
theorem dX11_risk_19 : decode cX11_risk 19 = .ok (.ifCond .eq 15, 3) := by decide +kernel
theorem dX11_risk_22 : decode cX11_risk 22 = .ok (.iload_n 3, 1) := by decide +kernel
theorem dX11_risk_23 : decode cX11_risk 23 = .ok (.i2l, 1) := by decide +kernel
theorem dX11_risk_24 : decode cX11_risk 24 = .ok (.lconst 1, 1) := by decide +kernel
theorem dX11_risk_25 : decode cX11_risk 25 = .ok (.ldc2_w 270, 3) := by decide +kernel
theorem dX11_risk_28 : decode cX11_risk 28 = .ok (.invokestatic 60, 3) := by decide +kernel
theorem dX11_risk_31 : decode cX11_risk 31 = .ok (.ifCond .ne 6, 3) := by decide +kernel
theorem dX11_risk_34 : decode cX11_risk 34 = .ok (.ldc 70, 2) := by decide +kernel
theorem dX11_risk_36 : decode cX11_risk 36 = .ok (.ireturn, 1) := by decide +kernel
theorem dX11_risk_37 : decode cX11_risk 37 = .ok (.aload_n 0, 1) := by decide +kernel
theorem dX11_risk_38 : decode cX11_risk 38 = .ok (.getfield 7, 3) := by decide +kernel
theorem dX11_risk_41 : decode cX11_risk 41 = .ok (.iload_n 1, 1) := by decide +kernel
theorem dX11_risk_42 : decode cX11_risk 42 = .ok (.iaload, 1) := by decide +kernel
theorem dX11_risk_43 : decode cX11_risk 43 = .ok (.ifCond .ge 9, 3) := by decide +kernel
theorem dX11_risk_46 : decode cX11_risk 46 = .ok (.aload_n 0, 1) := by decide +kernel
theorem dX11_risk_47 : decode cX11_risk 47 = .ok (.iconst 1, 1) := by decide +kernel
theorem dX11_risk_48 : decode cX11_risk 48 = .ok (.invokevirtual 71, 3) := by decide +kernel
theorem dX11_risk_51 : decode cX11_risk 51 = .ok (.ireturn, 1) := by decide +kernel
theorem dX11_risk_52 : decode cX11_risk 52 = .ok (.iload_n 2, 1) := by decide +kernel
theorem dX11_risk_53 : decode cX11_risk 53 = .ok (.ifCond .lt 19, 3) := by decide +kernel
theorem dX11_risk_56 : decode cX11_risk 56 = .ok (.iload_n 2, 1) := by decide +kernel
theorem dX11_risk_57 : decode cX11_risk 57 = .ok (.i2l, 1) := by decide +kernel
theorem dX11_risk_58 : decode cX11_risk 58 = .ok (.iload_n 3, 1) := by decide +kernel
theorem dX11_risk_59 : decode cX11_risk 59 = .ok (.i2l, 1) := by decide +kernel
theorem dX11_risk_60 : decode cX11_risk 60 = .ok (.ladd, 1) := by decide +kernel
theorem dX11_risk_61 : decode cX11_risk 61 = .ok (.aload_n 0, 1) := by decide +kernel
theorem dX11_risk_62 : decode cX11_risk 62 = .ok (.getfield 13, 3) := by decide +kernel
theorem dX11_risk_65 : decode cX11_risk 65 = .ok (.iload_n 1, 1) := by decide +kernel
theorem dX11_risk_66 : decode cX11_risk 66 = .ok (.iaload, 1) := by decide +kernel
theorem dX11_risk_67 : decode cX11_risk 67 = .ok (.i2l, 1) := by decide +kernel
theorem dX11_risk_68 : decode cX11_risk 68 = .ok (.lcmp, 1) := by decide +kernel
theorem dX11_risk_69 : decode cX11_risk 69 = .ok (.ifCond .le 9, 3) := by decide +kernel
theorem dX11_risk_72 : decode cX11_risk 72 = .ok (.aload_n 0, 1) := by decide +kernel
theorem dX11_risk_73 : decode cX11_risk 73 = .ok (.iconst 2, 1) := by decide +kernel
theorem dX11_risk_74 : decode cX11_risk 74 = .ok (.invokevirtual 71, 3) := by decide +kernel
theorem dX11_risk_77 : decode cX11_risk 77 = .ok (.ireturn, 1) := by decide +kernel
theorem dX11_risk_78 : decode cX11_risk 78 = .ok (.iconst 0, 1) := by decide +kernel
theorem dX11_risk_79 : decode cX11_risk 79 = .ok (.istore 4, 2) := by decide +kernel
theorem dX11_risk_81 : decode cX11_risk 81 = .ok (.iload 4, 2) := by decide +kernel
theorem dX11_risk_83 : decode cX11_risk 83 = .ok (.iload_n 3, 1) := by decide +kernel
theorem dX11_risk_84 : decode cX11_risk 84 = .ok (.if_icmp .ge 29, 3) := by decide +kernel
theorem dX11_risk_87 : decode cX11_risk 87 = .ok (.aload_n 0, 1) := by decide +kernel
theorem dX11_risk_88 : decode cX11_risk 88 = .ok (.getfield 16, 3) := by decide +kernel
theorem dX11_risk_91 : decode cX11_risk 91 = .ok (.bipush 40, 2) := by decide +kernel
theorem dX11_risk_93 : decode cX11_risk 93 = .ok (.iload_n 1, 1) := by decide +kernel
theorem dX11_risk_94 : decode cX11_risk 94 = .ok (.imul, 1) := by decide +kernel
theorem dX11_risk_95 : decode cX11_risk 95 = .ok (.iload_n 2, 1) := by decide +kernel
theorem dX11_risk_96 : decode cX11_risk 96 = .ok (.iadd, 1) := by decide +kernel
theorem dX11_risk_97 : decode cX11_risk 97 = .ok (.iload 4, 2) := by decide +kernel
theorem dX11_risk_99 : decode cX11_risk 99 = .ok (.iadd, 1) := by decide +kernel
theorem dX11_risk_100 : decode cX11_risk 100 = .ok (.iaload, 1) := by decide +kernel
theorem dX11_risk_101 : decode cX11_risk 101 = .ok (.ifCond .ge 6, 3) := by decide +kernel
theorem dX11_risk_104 : decode cX11_risk 104 = .ok (.ldc 70, 2) := by decide +kernel
theorem dX11_risk_106 : decode cX11_risk 106 = .ok (.ireturn, 1) := by decide +kernel
theorem dX11_risk_107 : decode cX11_risk 107 = .ok (.iinc 4 1, 3) := by decide +kernel
theorem dX11_risk_110 : decode cX11_risk 110 = .ok (.goto (-29), 3) := by decide +kernel
theorem dX11_risk_113 : decode cX11_risk 113 = .ok (.aload_n 0, 1) := by decide +kernel
theorem dX11_risk_114 : decode cX11_risk 114 = .ok (.iconst 0, 1) := by decide +kernel
theorem dX11_risk_115 : decode cX11_risk 115 = .ok (.putfield 54, 3) := by decide +kernel
theorem dX11_risk_118 : decode cX11_risk 118 = .ok (.aload_n 0, 1) := by decide +kernel
theorem dX11_risk_119 : decode cX11_risk 119 = .ok (.invokevirtual 236, 3) := by decide +kernel
theorem dX11_risk_122 : decode cX11_risk 122 = .ok (.aload_n 0, 1) := by decide +kernel
theorem dX11_risk_123 : decode cX11_risk 123 = .ok (.invokevirtual 239, 3) := by decide +kernel
theorem dX11_risk_126 : decode cX11_risk 126 = .ok (.istore 4, 2) := by decide +kernel
theorem dX11_risk_128 : decode cX11_risk 128 = .ok (.iconst 0, 1) := by decide +kernel
theorem dX11_risk_129 : decode cX11_risk 129 = .ok (.istore 5, 2) := by decide +kernel
theorem dX11_risk_131 : decode cX11_risk 131 = .ok (.iload 5, 2) := by decide +kernel
theorem dX11_risk_133 : decode cX11_risk 133 = .ok (.iload_n 3, 1) := by decide +kernel
theorem dX11_risk_134 : decode cX11_risk 134 = .ok (.if_icmp .ge 28, 3) := by decide +kernel
theorem dX11_risk_137 : decode cX11_risk 137 = .ok (.aload_n 0, 1) := by decide +kernel
theorem dX11_risk_138 : decode cX11_risk 138 = .ok (.getfield 16, 3) := by decide +kernel
theorem dX11_risk_141 : decode cX11_risk 141 = .ok (.bipush 40, 2) := by decide +kernel
theorem dX11_risk_143 : decode cX11_risk 143 = .ok (.iload_n 1, 1) := by decide +kernel
theorem dX11_risk_144 : decode cX11_risk 144 = .ok (.imul, 1) := by decide +kernel
theorem dX11_risk_145 : decode cX11_risk 145 = .ok (.iload_n 2, 1) := by decide +kernel
theorem dX11_risk_146 : decode cX11_risk 146 = .ok (.iadd, 1) := by decide +kernel
theorem dX11_risk_147 : decode cX11_risk 147 = .ok (.iload 5, 2) := by decide +kernel
theorem dX11_risk_149 : decode cX11_risk 149 = .ok (.iadd, 1) := by decide +kernel
theorem dX11_risk_150 : decode cX11_risk 150 = .ok (.iaload, 1) := by decide +kernel
theorem dX11_risk_151 : decode cX11_risk 151 = .ok (.iload 4, 2) := by decide +kernel
theorem dX11_risk_153 : decode cX11_risk 153 = .ok (.if_icmp .gt 9, 3) := by decide +kernel
theorem dX11_risk_156 : decode cX11_risk 156 = .ok (.iinc 5 1, 3) := by decide +kernel
theorem dX11_risk_159 : decode cX11_risk 159 = .ok (.goto (-28), 3) := by decide +kernel
theorem dX11_risk_162 : decode cX11_risk 162 = .ok (.iload 5, 2) := by decide +kernel
theorem dX11_risk_164 : decode cX11_risk 164 = .ok (.ireturn, 1) := by decide +kernel
theorem dX11_whose_0 : decode cX11_whose 0 = .ok (.aload_n 0, 1) := by decide +kernel
theorem dX11_whose_1 : decode cX11_whose 1 = .ok (.iconst 0, 1) := by decide +kernel
theorem dX11_whose_2 : decode cX11_whose 2 = .ok (.putfield 50, 3) := by decide +kernel
theorem dX11_whose_5 : decode cX11_whose 5 = .ok (.aload_n 0, 1) := by decide +kernel
theorem dX11_whose_6 : decode cX11_whose 6 = .ok (.getfield 177, 3) := by decide +kernel
theorem dX11_whose_9 : decode cX11_whose 9 = .ok (.ifCond .ne 6, 3) := by decide +kernel
theorem dX11_whose_12 : decode cX11_whose 12 = .ok (.ldc 218, 2) := by decide +kernel
theorem dX11_whose_14 : decode cX11_whose 14 = .ok (.ireturn, 1) := by decide +kernel
theorem dX11_whose_15 : decode cX11_whose 15 = .ok (.iload_n 1, 1) := by decide +kernel
theorem dX11_whose_16 : decode cX11_whose 16 = .ok (.invokestatic 227, 3) := by decide +kernel
theorem dX11_whose_19 : decode cX11_whose 19 = .ok (.ifCond .eq 15, 3) := by decide +kernel
theorem dX11_whose_22 : decode cX11_whose 22 = .ok (.iload_n 2, 1) := by decide +kernel
theorem dX11_whose_23 : decode cX11_whose 23 = .ok (.invokestatic 227, 3) := by decide +kernel
theorem dX11_whose_26 : decode cX11_whose 26 = .ok (.ifCond .eq 8, 3) := by decide +kernel
theorem dX11_whose_29 : decode cX11_whose 29 = .ok (.iload_n 1, 1) := by decide +kernel
theorem dX11_whose_30 : decode cX11_whose 30 = .ok (.iload_n 2, 1) := by decide +kernel
theorem dX11_whose_31 : decode cX11_whose 31 = .ok (.if_icmp .lt 6, 3) := by decide +kernel
theorem dX11_whose_34 : decode cX11_whose 34 = .ok (.ldc 70, 2) := by decide +kernel
theorem dX11_whose_36 : decode cX11_whose 36 = .ok (.ireturn, 1) := by decide +kernel
theorem dX11_whose_37 : decode cX11_whose 37 = .ok (.iconst 0, 1) := by decide +kernel
theorem dX11_whose_38 : decode cX11_whose 38 = .ok (.istore_n 3, 1) := by decide +kernel
theorem dX11_whose_39 : decode cX11_whose 39 = .ok (.iconst 0, 1) := by decide +kernel
theorem dX11_whose_40 : decode cX11_whose 40 = .ok (.istore 4, 2) := by decide +kernel
theorem dX11_whose_42 : decode cX11_whose 42 = .ok (.iload 4, 2) := by decide +kernel
theorem dX11_whose_44 : decode cX11_whose 44 = .ok (.aload_n 0, 1) := by decide +kernel
theorem dX11_whose_45 : decode cX11_whose 45 = .ok (.getfield 19, 3) := by decide +kernel
theorem dX11_whose_48 : decode cX11_whose 48 = .ok (.iconst 3, 1) := by decide +kernel
theorem dX11_whose_49 : decode cX11_whose 49 = .ok (.iaload, 1) := by decide +kernel
theorem dX11_whose_50 : decode cX11_whose 50 = .ok (.if_icmp .ge 83, 3) := by decide +kernel
theorem dX11_whose_53 : decode cX11_whose 53 = .ok (.aload_n 0, 1) := by decide +kernel
theorem dX11_whose_54 : decode cX11_whose 54 = .ok (.iload 4, 2) := by decide +kernel
theorem dX11_whose_56 : decode cX11_whose 56 = .ok (.iconst 3, 1) := by decide +kernel
theorem dX11_whose_57 : decode cX11_whose 57 = .ok (.invokevirtual 188, 3) := by decide +kernel
theorem dX11_whose_60 : decode cX11_whose 60 = .ok (.istore 5, 2) := by decide +kernel
theorem dX11_whose_62 : decode cX11_whose 62 = .ok (.iload 5, 2) := by decide +kernel
theorem dX11_whose_64 : decode cX11_whose 64 = .ok (.ifCond .lt 63, 3) := by decide +kernel
theorem dX11_whose_67 : decode cX11_whose 67 = .ok (.aload_n 0, 1) := by decide +kernel
theorem dX11_whose_68 : decode cX11_whose 68 = .ok (.iload 4, 2) := by decide +kernel
theorem dX11_whose_70 : decode cX11_whose 70 = .ok (.iconst 4, 1) := by decide +kernel
theorem dX11_whose_71 : decode cX11_whose 71 = .ok (.invokevirtual 188, 3) := by decide +kernel
theorem dX11_whose_74 : decode cX11_whose 74 = .ok (.iconst 2, 1) := by decide +kernel
theorem dX11_whose_75 : decode cX11_whose 75 = .ok (.if_icmp .ge 52, 3) := by decide +kernel
theorem dX11_whose_78 : decode cX11_whose 78 = .ok (.aload_n 0, 1) := by decide +kernel
theorem dX11_whose_79 : decode cX11_whose 79 = .ok (.invokevirtual 236, 3) := by decide +kernel
theorem dX11_whose_82 : decode cX11_whose 82 = .ok (.aload_n 0, 1) := by decide +kernel
theorem dX11_whose_83 : decode cX11_whose 83 = .ok (.getfield 31, 3) := by decide +kernel
theorem dX11_whose_86 : decode cX11_whose 86 = .ok (.iload 5, 2) := by decide +kernel
theorem dX11_whose_88 : decode cX11_whose 88 = .ok (.dup2, 1) := by decide +kernel
theorem dX11_whose_89 : decode cX11_whose 89 = .ok (.iaload, 1) := by decide +kernel
theorem dX11_whose_90 : decode cX11_whose 90 = .ok (.aload_n 0, 1) := by decide +kernel
theorem dX11_whose_91 : decode cX11_whose 91 = .ok (.iload 4, 2) := by decide +kernel
theorem dX11_whose_93 : decode cX11_whose 93 = .ok (.invokevirtual 200, 3) := by decide +kernel
theorem dX11_whose_96 : decode cX11_whose 96 = .ok (.isub, 1) := by decide +kernel
theorem dX11_whose_97 : decode cX11_whose 97 = .ok (.iastore, 1) := by decide +kernel
theorem dX11_whose_98 : decode cX11_whose 98 = .ok (.aload_n 0, 1) := by decide +kernel
theorem dX11_whose_99 : decode cX11_whose 99 = .ok (.invokevirtual 239, 3) := by decide +kernel
theorem dX11_whose_102 : decode cX11_whose 102 = .ok (.istore 6, 2) := by decide +kernel
theorem dX11_whose_104 : decode cX11_whose 104 = .ok (.iload_n 3, 1) := by decide +kernel
theorem dX11_whose_105 : decode cX11_whose 105 = .ok (.iload 6, 2) := by decide +kernel
theorem dX11_whose_107 : decode cX11_whose 107 = .ok (.iload_n 1, 1) := by decide +kernel
theorem dX11_whose_108 : decode cX11_whose 108 = .ok (.if_icmp .lt 16, 3) := by decide +kernel
theorem dX11_whose_111 : decode cX11_whose 111 = .ok (.iload 6, 2) := by decide +kernel
theorem dX11_whose_113 : decode cX11_whose 113 = .ok (.iload_n 2, 1) := by decide +kernel
theorem dX11_whose_114 : decode cX11_whose 114 = .ok (.if_icmp .ge 10, 3) := by decide +kernel
theorem dX11_whose_117 : decode cX11_whose 117 = .ok (.iconst 1, 1) := by decide +kernel
theorem dX11_whose_118 : decode cX11_whose 118 = .ok (.iload 4, 2) := by decide +kernel
theorem dX11_whose_120 : decode cX11_whose 120 = .ok (.ishl, 1) := by decide +kernel
theorem dX11_whose_121 : decode cX11_whose 121 = .ok (.goto 4, 3) := by decide +kernel
theorem dX11_whose_124 : decode cX11_whose 124 = .ok (.iconst 0, 1) := by decide +kernel
theorem dX11_whose_125 : decode cX11_whose 125 = .ok (.ior, 1) := by decide +kernel
theorem dX11_whose_126 : decode cX11_whose 126 = .ok (.istore_n 3, 1) := by decide +kernel
theorem dX11_whose_127 : decode cX11_whose 127 = .ok (.iinc 4 1, 3) := by decide +kernel
theorem dX11_whose_130 : decode cX11_whose 130 = .ok (.goto (-88), 3) := by decide +kernel
theorem dX11_whose_133 : decode cX11_whose 133 = .ok (.iload_n 3, 1) := by decide +kernel
theorem dX11_whose_134 : decode cX11_whose 134 = .ok (.ireturn, 1) := by decide +kernel
theorem dX11_geese_0 : decode cX11_geese 0 = .ok (.aload_n 0, 1) := by decide +kernel
theorem dX11_geese_1 : decode cX11_geese 1 = .ok (.iconst 0, 1) := by decide +kernel
theorem dX11_geese_2 : decode cX11_geese 2 = .ok (.putfield 50, 3) := by decide +kernel
theorem dX11_geese_5 : decode cX11_geese 5 = .ok (.aload_n 0, 1) := by decide +kernel
theorem dX11_geese_6 : decode cX11_geese 6 = .ok (.getfield 177, 3) := by decide +kernel
theorem dX11_geese_9 : decode cX11_geese 9 = .ok (.ifCond .ne 6, 3) := by decide +kernel
theorem dX11_geese_12 : decode cX11_geese 12 = .ok (.ldc 218, 2) := by decide +kernel
theorem dX11_geese_14 : decode cX11_geese 14 = .ok (.ireturn, 1) := by decide +kernel
theorem dX11_geese_15 : decode cX11_geese 15 = .ok (.iload_n 1, 1) := by decide +kernel
theorem dX11_geese_16 : decode cX11_geese 16 = .ok (.i2l, 1) := by decide +kernel
theorem dX11_geese_17 : decode cX11_geese 17 = .ok (.lconst 1, 1) := by decide +kernel
theorem dX11_geese_18 : decode cX11_geese 18 = .ok (.iconst 1, 1) := by decide +kernel
theorem dX11_geese_19 : decode cX11_geese 19 = .ok (.aload_n 0, 1) := by decide +kernel
theorem dX11_geese_20 : decode cX11_geese 20 = .ok (.getfield 19, 3) := by decide +kernel
theorem dX11_geese_23 : decode cX11_geese 23 = .ok (.iconst 3, 1) := by decide +kernel
theorem dX11_geese_24 : decode cX11_geese 24 = .ok (.iaload, 1) := by decide +kernel
theorem dX11_geese_25 : decode cX11_geese 25 = .ok (.ishl, 1) := by decide +kernel
theorem dX11_geese_26 : decode cX11_geese 26 = .ok (.iconst 1, 1) := by decide +kernel
theorem dX11_geese_27 : decode cX11_geese 27 = .ok (.isub, 1) := by decide +kernel
theorem dX11_geese_28 : decode cX11_geese 28 = .ok (.i2l, 1) := by decide +kernel
theorem dX11_geese_29 : decode cX11_geese 29 = .ok (.invokestatic 60, 3) := by decide +kernel
theorem dX11_geese_32 : decode cX11_geese 32 = .ok (.ifCond .ne 6, 3) := by decide +kernel
theorem dX11_geese_35 : decode cX11_geese 35 = .ok (.ldc 70, 2) := by decide +kernel
theorem dX11_geese_37 : decode cX11_geese 37 = .ok (.ireturn, 1) := by decide +kernel
theorem dX11_geese_38 : decode cX11_geese 38 = .ok (.iconst 0, 1) := by decide +kernel
theorem dX11_geese_39 : decode cX11_geese 39 = .ok (.istore_n 2, 1) := by decide +kernel
theorem dX11_geese_40 : decode cX11_geese 40 = .ok (.iconst 0, 1) := by decide +kernel
theorem dX11_geese_41 : decode cX11_geese 41 = .ok (.istore_n 3, 1) := by decide +kernel
theorem dX11_geese_42 : decode cX11_geese 42 = .ok (.iload_n 3, 1) := by decide +kernel
theorem dX11_geese_43 : decode cX11_geese 43 = .ok (.bipush 9, 2) := by decide +kernel
theorem dX11_geese_45 : decode cX11_geese 45 = .ok (.if_icmp .ge 17, 3) := by decide +kernel
theorem dX11_geese_48 : decode cX11_geese 48 = .ok (.iload_n 2, 1) := by decide +kernel
theorem dX11_geese_49 : decode cX11_geese 49 = .ok (.iload_n 1, 1) := by decide +kernel
theorem dX11_geese_50 : decode cX11_geese 50 = .ok (.iload_n 3, 1) := by decide +kernel
theorem dX11_geese_51 : decode cX11_geese 51 = .ok (.ishr, 1) := by decide +kernel
theorem dX11_geese_52 : decode cX11_geese 52 = .ok (.iconst 1, 1) := by decide +kernel
theorem dX11_geese_53 : decode cX11_geese 53 = .ok (.iand, 1) := by decide +kernel
theorem dX11_geese_54 : decode cX11_geese 54 = .ok (.iadd, 1) := by decide +kernel
theorem dX11_geese_55 : decode cX11_geese 55 = .ok (.istore_n 2, 1) := by decide +kernel
theorem dX11_geese_56 : decode cX11_geese 56 = .ok (.iinc 3 1, 3) := by decide +kernel
theorem dX11_geese_59 : decode cX11_geese 59 = .ok (.goto (-17), 3) := by decide +kernel
theorem dX11_geese_62 : decode cX11_geese 62 = .ok (.iconst 0, 1) := by decide +kernel
theorem dX11_geese_63 : decode cX11_geese 63 = .ok (.istore_n 3, 1) := by decide +kernel
theorem dX11_geese_64 : decode cX11_geese 64 = .ok (.iconst 1, 1) := by decide +kernel
theorem dX11_geese_65 : decode cX11_geese 65 = .ok (.iload_n 3, 1) := by decide +kernel
theorem dX11_geese_66 : decode cX11_geese 66 = .ok (.ishl, 1) := by decide +kernel
theorem dX11_geese_67 : decode cX11_geese 67 = .ok (.iload_n 2, 1) := by decide +kernel
theorem dX11_geese_68 : decode cX11_geese 68 = .ok (.if_icmp .ge 9, 3) := by decide +kernel
theorem dX11_geese_71 : decode cX11_geese 71 = .ok (.iinc 3 1, 3) := by decide +kernel
theorem dX11_geese_74 : decode cX11_geese 74 = .ok (.goto (-10), 3) := by decide +kernel
theorem dX11_geese_77 : decode cX11_geese 77 = .ok (.iload_n 3, 1) := by decide +kernel
theorem dX11_geese_78 : decode cX11_geese 78 = .ok (.ireturn, 1) := by decide +kernel
theorem dX11_fathoms_0 : decode cX11_fathoms 0 = .ok (.aload_n 0, 1) := by decide +kernel
theorem dX11_fathoms_1 : decode cX11_fathoms 1 = .ok (.iconst 0, 1) := by decide +kernel
theorem dX11_fathoms_2 : decode cX11_fathoms 2 = .ok (.putfield 50, 3) := by decide +kernel
theorem dX11_fathoms_5 : decode cX11_fathoms 5 = .ok (.aload_n 0, 1) := by decide +kernel
theorem dX11_fathoms_6 : decode cX11_fathoms 6 = .ok (.iload_n 1, 1) := by decide +kernel
theorem dX11_fathoms_7 : decode cX11_fathoms 7 = .ok (.invokevirtual 272, 3) := by decide +kernel
theorem dX11_fathoms_10 : decode cX11_fathoms 10 = .ok (.ifCond .ne 6, 3) := by decide +kernel
theorem dX11_fathoms_13 : decode cX11_fathoms 13 = .ok (.ldc 70, 2) := by decide +kernel
theorem dX11_fathoms_15 : decode cX11_fathoms 15 = .ok (.ireturn, 1) := by decide +kernel
theorem dX11_fathoms_16 : decode cX11_fathoms 16 = .ok (.iconst 0, 1) := by decide +kernel
theorem dX11_fathoms_17 : decode cX11_fathoms 17 = .ok (.istore_n 2, 1) := by decide +kernel
theorem dX11_fathoms_18 : decode cX11_fathoms 18 = .ok (.iconst 0, 1) := by decide +kernel
theorem dX11_fathoms_19 : decode cX11_fathoms 19 = .ok (.istore_n 3, 1) := by decide +kernel
theorem dX11_fathoms_20 : decode cX11_fathoms 20 = .ok (.iload_n 3, 1) := by decide +kernel
theorem dX11_fathoms_21 : decode cX11_fathoms 21 = .ok (.aload_n 0, 1) := by decide +kernel
theorem dX11_fathoms_22 : decode cX11_fathoms 22 = .ok (.getfield 19, 3) := by decide +kernel
theorem dX11_fathoms_25 : decode cX11_fathoms 25 = .ok (.iconst 3, 1) := by decide +kernel
theorem dX11_fathoms_26 : decode cX11_fathoms 26 = .ok (.iaload, 1) := by decide +kernel
theorem dX11_fathoms_27 : decode cX11_fathoms 27 = .ok (.if_icmp .ge 42, 3) := by decide +kernel
theorem dX11_fathoms_30 : decode cX11_fathoms 30 = .ok (.iload_n 2, 1) := by decide +kernel
theorem dX11_fathoms_31 : decode cX11_fathoms 31 = .ok (.aload_n 0, 1) := by decide +kernel
theorem dX11_fathoms_32 : decode cX11_fathoms 32 = .ok (.iload_n 3, 1) := by decide +kernel
theorem dX11_fathoms_33 : decode cX11_fathoms 33 = .ok (.iconst 1, 1) := by decide +kernel
theorem dX11_fathoms_34 : decode cX11_fathoms 34 = .ok (.invokevirtual 188, 3) := by decide +kernel
theorem dX11_fathoms_37 : decode cX11_fathoms 37 = .ok (.iload_n 1, 1) := by decide +kernel
theorem dX11_fathoms_38 : decode cX11_fathoms 38 = .ok (.if_icmp .ne 22, 3) := by decide +kernel
theorem dX11_fathoms_41 : decode cX11_fathoms 41 = .ok (.aload_n 0, 1) := by decide +kernel
theorem dX11_fathoms_42 : decode cX11_fathoms 42 = .ok (.iload_n 3, 1) := by decide +kernel
theorem dX11_fathoms_43 : decode cX11_fathoms 43 = .ok (.iconst 4, 1) := by decide +kernel
theorem dX11_fathoms_44 : decode cX11_fathoms 44 = .ok (.invokevirtual 188, 3) := by decide +kernel
theorem dX11_fathoms_47 : decode cX11_fathoms 47 = .ok (.iconst 1, 1) := by decide +kernel
theorem dX11_fathoms_48 : decode cX11_fathoms 48 = .ok (.if_icmp .ne 12, 3) := by decide +kernel
theorem dX11_fathoms_51 : decode cX11_fathoms 51 = .ok (.aload_n 0, 1) := by decide +kernel
theorem dX11_fathoms_52 : decode cX11_fathoms 52 = .ok (.iload_n 3, 1) := by decide +kernel
theorem dX11_fathoms_53 : decode cX11_fathoms 53 = .ok (.iconst 2, 1) := by decide +kernel
theorem dX11_fathoms_54 : decode cX11_fathoms 54 = .ok (.invokevirtual 188, 3) := by decide +kernel
theorem dX11_fathoms_57 : decode cX11_fathoms 57 = .ok (.goto 4, 3) := by decide +kernel
theorem dX11_fathoms_60 : decode cX11_fathoms 60 = .ok (.iconst 0, 1) := by decide +kernel
theorem dX11_fathoms_61 : decode cX11_fathoms 61 = .ok (.iadd, 1) := by decide +kernel
theorem dX11_fathoms_62 : decode cX11_fathoms 62 = .ok (.istore_n 2, 1) := by decide +kernel
theorem dX11_fathoms_63 : decode cX11_fathoms 63 = .ok (.iinc 3 1, 3) := by decide +kernel
theorem dX11_fathoms_66 : decode cX11_fathoms 66 = .ok (.goto (-46), 3) := by decide +kernel
theorem dX11_fathoms_69 : decode cX11_fathoms 69 = .ok (.iload_n 2, 1) := by decide +kernel
theorem dX11_fathoms_70 : decode cX11_fathoms 70 = .ok (.ireturn, 1) := by decide +kernel
theorem dX11_image_0 : decode cX11_image 0 = .ok (.aload_n 0, 1) := by decide +kernel
theorem dX11_image_1 : decode cX11_image 1 = .ok (.iconst 0, 1) := by decide +kernel
theorem dX11_image_2 : decode cX11_image 2 = .ok (.putfield 50, 3) := by decide +kernel
theorem dX11_image_5 : decode cX11_image 5 = .ok (.iload_n 1, 1) := by decide +kernel
theorem dX11_image_6 : decode cX11_image 6 = .ok (.i2l, 1) := by decide +kernel
theorem dX11_image_7 : decode cX11_image 7 = .ok (.lconst 0, 1) := by decide +kernel
theorem dX11_image_8 : decode cX11_image 8 = .ok (.lconst 1, 1) := by decide +kernel
theorem dX11_image_9 : decode cX11_image 9 = .ok (.invokestatic 60, 3) := by decide +kernel
theorem dX11_image_12 : decode cX11_image 12 = .ok (.ifCond .ne 6, 3) := by decide +kernel
theorem dX11_image_15 : decode cX11_image 15 = .ok (.ldc 70, 2) := by decide +kernel
theorem dX11_image_17 : decode cX11_image 17 = .ok (.ireturn, 1) := by decide +kernel
theorem dX11_image_18 : decode cX11_image 18 = .ok (.aload_n 0, 1) := by decide +kernel
theorem dX11_image_19 : decode cX11_image 19 = .ok (.getfield 177, 3) := by decide +kernel
theorem dX11_image_22 : decode cX11_image 22 = .ok (.ifCond .ne 6, 3) := by decide +kernel
theorem dX11_image_25 : decode cX11_image 25 = .ok (.ldc 218, 2) := by decide +kernel
theorem dX11_image_27 : decode cX11_image 27 = .ok (.ireturn, 1) := by decide +kernel
theorem dX11_image_28 : decode cX11_image 28 = .ok (.iconst 0, 1) := by decide +kernel
theorem dX11_image_29 : decode cX11_image 29 = .ok (.istore_n 2, 1) := by decide +kernel
theorem dX11_image_30 : decode cX11_image 30 = .ok (.iload_n 2, 1) := by decide +kernel
theorem dX11_image_31 : decode cX11_image 31 = .ok (.bipush 77, 2) := by decide +kernel
theorem dX11_image_33 : decode cX11_image 33 = .ok (.if_icmp .ge 26, 3) := by decide +kernel
theorem dX11_image_36 : decode cX11_image 36 = .ok (.aload_n 0, 1) := by decide +kernel
theorem dX11_image_37 : decode cX11_image 37 = .ok (.getfield 44, 3) := by decide +kernel
theorem dX11_image_40 : decode cX11_image 40 = .ok (.bipush 77, 2) := by decide +kernel
theorem dX11_image_42 : decode cX11_image 42 = .ok (.iload_n 1, 1) := by decide +kernel
theorem dX11_image_43 : decode cX11_image 43 = .ok (.imul, 1) := by decide +kernel
theorem dX11_image_44 : decode cX11_image 44 = .ok (.iload_n 2, 1) := by decide +kernel
theorem dX11_image_45 : decode cX11_image 45 = .ok (.iadd, 1) := by decide +kernel
theorem dX11_image_46 : decode cX11_image 46 = .ok (.aload_n 0, 1) := by decide +kernel
theorem dX11_image_47 : decode cX11_image 47 = .ok (.getfield 19, 3) := by decide +kernel
theorem dX11_image_50 : decode cX11_image 50 = .ok (.iload_n 2, 1) := by decide +kernel
theorem dX11_image_51 : decode cX11_image 51 = .ok (.iaload, 1) := by decide +kernel
theorem dX11_image_52 : decode cX11_image 52 = .ok (.iastore, 1) := by decide +kernel
theorem dX11_image_53 : decode cX11_image 53 = .ok (.iinc 2 1, 3) := by decide +kernel
theorem dX11_image_56 : decode cX11_image 56 = .ok (.goto (-26), 3) := by decide +kernel
theorem dX11_image_59 : decode cX11_image 59 = .ok (.aload_n 0, 1) := by decide +kernel
theorem dX11_image_60 : decode cX11_image 60 = .ok (.getfield 40, 3) := by decide +kernel
theorem dX11_image_63 : decode cX11_image 63 = .ok (.iload_n 1, 1) := by decide +kernel
theorem dX11_image_64 : decode cX11_image 64 = .ok (.iconst 1, 1) := by decide +kernel
theorem dX11_image_65 : decode cX11_image 65 = .ok (.bastore, 1) := by decide +kernel
theorem dX11_image_66 : decode cX11_image 66 = .ok (.iconst 1, 1) := by decide +kernel
theorem dX11_image_67 : decode cX11_image 67 = .ok (.ireturn, 1) := by decide +kernel
theorem dX11_restore_0 : decode cX11_restore 0 = .ok (.aload_n 0, 1) := by decide +kernel
theorem dX11_restore_1 : decode cX11_restore 1 = .ok (.iconst 0, 1) := by decide +kernel
theorem dX11_restore_2 : decode cX11_restore 2 = .ok (.putfield 50, 3) := by decide +kernel
theorem dX11_restore_5 : decode cX11_restore 5 = .ok (.iload_n 1, 1) := by decide +kernel
theorem dX11_restore_6 : decode cX11_restore 6 = .ok (.i2l, 1) := by decide +kernel
theorem dX11_restore_7 : decode cX11_restore 7 = .ok (.lconst 0, 1) := by decide +kernel
theorem dX11_restore_8 : decode cX11_restore 8 = .ok (.lconst 1, 1) := by decide +kernel
theorem dX11_restore_9 : decode cX11_restore 9 = .ok (.invokestatic 60, 3) := by decide +kernel
theorem dX11_restore_12 : decode cX11_restore 12 = .ok (.ifCond .ne 6, 3) := by decide +kernel
theorem dX11_restore_15 : decode cX11_restore 15 = .ok (.ldc 70, 2) := by decide +kernel
theorem dX11_restore_17 : decode cX11_restore 17 = .ok (.ireturn, 1) := by decide +kernel
theorem dX11_restore_18 : decode cX11_restore 18 = .ok (.aload_n 0, 1) := by decide +kernel
theorem dX11_restore_19 : decode cX11_restore 19 = .ok (.getfield 40, 3) := by decide +kernel
theorem dX11_restore_22 : decode cX11_restore 22 = .ok (.iload_n 1, 1) := by decide +kernel
theorem dX11_restore_23 : decode cX11_restore 23 = .ok (.baload, 1) := by decide +kernel
theorem dX11_restore_24 : decode cX11_restore 24 = .ok (.ifCond .ne 6, 3) := by decide +kernel
theorem dX11_restore_27 : decode cX11_restore 27 = .ok (.ldc 218, 2) := by decide +kernel
theorem dX11_restore_29 : decode cX11_restore 29 = .ok (.ireturn, 1) := by decide +kernel
theorem dX11_restore_30 : decode cX11_restore 30 = .ok (.iconst 0, 1) := by decide +kernel
theorem dX11_restore_31 : decode cX11_restore 31 = .ok (.istore_n 2, 1) := by decide +kernel
theorem dX11_restore_32 : decode cX11_restore 32 = .ok (.iload_n 2, 1) := by decide +kernel
theorem dX11_restore_33 : decode cX11_restore 33 = .ok (.bipush 77, 2) := by decide +kernel
theorem dX11_restore_35 : decode cX11_restore 35 = .ok (.if_icmp .ge 26, 3) := by decide +kernel
theorem dX11_restore_38 : decode cX11_restore 38 = .ok (.aload_n 0, 1) := by decide +kernel
theorem dX11_restore_39 : decode cX11_restore 39 = .ok (.getfield 19, 3) := by decide +kernel
theorem dX11_restore_42 : decode cX11_restore 42 = .ok (.iload_n 2, 1) := by decide +kernel
theorem dX11_restore_43 : decode cX11_restore 43 = .ok (.aload_n 0, 1) := by decide +kernel
theorem dX11_restore_44 : decode cX11_restore 44 = .ok (.getfield 44, 3) := by decide +kernel
theorem dX11_restore_47 : decode cX11_restore 47 = .ok (.bipush 77, 2) := by decide +kernel
theorem dX11_restore_49 : decode cX11_restore 49 = .ok (.iload_n 1, 1) := by decide +kernel
theorem dX11_restore_50 : decode cX11_restore 50 = .ok (.imul, 1) := by decide +kernel
theorem dX11_restore_51 : decode cX11_restore 51 = .ok (.iload_n 2, 1) := by decide +kernel
theorem dX11_restore_52 : decode cX11_restore 52 = .ok (.iadd, 1) := by decide +kernel
theorem dX11_restore_53 : decode cX11_restore 53 = .ok (.iaload, 1) := by decide +kernel
theorem dX11_restore_54 : decode cX11_restore 54 = .ok (.iastore, 1) := by decide +kernel
theorem dX11_restore_55 : decode cX11_restore 55 = .ok (.iinc 2 1, 3) := by decide +kernel
theorem dX11_restore_58 : decode cX11_restore 58 = .ok (.goto (-26), 3) := by decide +kernel
theorem dX11_restore_61 : decode cX11_restore 61 = .ok (.aload_n 0, 1) := by decide +kernel
theorem dX11_restore_62 : decode cX11_restore 62 = .ok (.iconst 0, 1) := by decide +kernel
theorem dX11_restore_63 : decode cX11_restore 63 = .ok (.putfield 181, 3) := by decide +kernel
theorem dX11_restore_66 : decode cX11_restore 66 = .ok (.iconst 1, 1) := by decide +kernel
theorem dX11_restore_67 : decode cX11_restore 67 = .ok (.ireturn, 1) := by decide +kernel
theorem dX11_isOf_0 : decode cX11_isOf 0 = .ok (.iload_n 1, 1) := by decide +kernel
theorem dX11_isOf_1 : decode cX11_isOf 1 = .ok (.ifCond .eq 38, 3) := by decide +kernel
theorem dX11_isOf_4 : decode cX11_isOf 4 = .ok (.iload_n 0, 1) := by decide +kernel
theorem dX11_isOf_5 : decode cX11_isOf 5 = .ok (.iload_n 1, 1) := by decide +kernel
theorem dX11_isOf_6 : decode cX11_isOf 6 = .ok (.if_icmp .eq 33, 3) := by decide +kernel
theorem dX11_isOf_9 : decode cX11_isOf 9 = .ok (.iload_n 1, 1) := by decide +kernel
theorem dX11_isOf_10 : decode cX11_isOf 10 = .ok (.iconst 1, 1) := by decide +kernel
theorem dX11_isOf_11 : decode cX11_isOf 11 = .ok (.if_icmp .ne 8, 3) := by decide +kernel
theorem dX11_isOf_14 : decode cX11_isOf 14 = .ok (.iload_n 0, 1) := by decide +kernel
theorem dX11_isOf_15 : decode cX11_isOf 15 = .ok (.iconst 4, 1) := by decide +kernel
theorem dX11_isOf_16 : decode cX11_isOf 16 = .ok (.if_icmp .lt 23, 3) := by decide +kernel
theorem dX11_isOf_19 : decode cX11_isOf 19 = .ok (.iload_n 1, 1) := by decide +kernel
theorem dX11_isOf_20 : decode cX11_isOf 20 = .ok (.iconst 2, 1) := by decide +kernel
theorem dX11_isOf_21 : decode cX11_isOf 21 = .ok (.if_icmp .ne 8, 3) := by decide +kernel
theorem dX11_isOf_24 : decode cX11_isOf 24 = .ok (.iload_n 0, 1) := by decide +kernel
theorem dX11_isOf_25 : decode cX11_isOf 25 = .ok (.iconst 3, 1) := by decide +kernel
theorem dX11_isOf_26 : decode cX11_isOf 26 = .ok (.if_icmp .eq 13, 3) := by decide +kernel
theorem dX11_isOf_29 : decode cX11_isOf 29 = .ok (.iload_n 1, 1) := by decide +kernel
theorem dX11_isOf_30 : decode cX11_isOf 30 = .ok (.iconst 4, 1) := by decide +kernel
theorem dX11_isOf_31 : decode cX11_isOf 31 = .ok (.if_icmp .ne 12, 3) := by decide +kernel
theorem dX11_isOf_34 : decode cX11_isOf 34 = .ok (.iload_n 0, 1) := by decide +kernel
theorem dX11_isOf_35 : decode cX11_isOf 35 = .ok (.iconst 5, 1) := by decide +kernel
theorem dX11_isOf_36 : decode cX11_isOf 36 = .ok (.if_icmp .ne 7, 3) := by decide +kernel
theorem dX11_isOf_39 : decode cX11_isOf 39 = .ok (.iconst 1, 1) := by decide +kernel
theorem dX11_isOf_40 : decode cX11_isOf 40 = .ok (.goto 4, 3) := by decide +kernel
theorem dX11_isOf_43 : decode cX11_isOf 43 = .ok (.iconst 0, 1) := by decide +kernel
theorem dX11_isOf_44 : decode cX11_isOf 44 = .ok (.ireturn, 1) := by decide +kernel
theorem dX11_kind_0 : decode cX11_kind 0 = .ok (.aload_n 0, 1) := by decide +kernel
theorem dX11_kind_1 : decode cX11_kind 1 = .ok (.iconst 0, 1) := by decide +kernel
theorem dX11_kind_2 : decode cX11_kind 2 = .ok (.putfield 50, 3) := by decide +kernel
theorem dX11_kind_5 : decode cX11_kind 5 = .ok (.aload_n 0, 1) := by decide +kernel
theorem dX11_kind_6 : decode cX11_kind 6 = .ok (.iload_n 1, 1) := by decide +kernel
theorem dX11_kind_7 : decode cX11_kind 7 = .ok (.invokevirtual 206, 3) := by decide +kernel
theorem dX11_kind_10 : decode cX11_kind 10 = .ok (.ifCond .eq 12, 3) := by decide +kernel
theorem dX11_kind_13 : decode cX11_kind 13 = .ok (.aload_n 0, 1) := by decide +kernel
theorem dX11_kind_14 : decode cX11_kind 14 = .ok (.iload_n 1, 1) := by decide +kernel
theorem dX11_kind_15 : decode cX11_kind 15 = .ok (.iconst 0, 1) := by decide +kernel
theorem dX11_kind_16 : decode cX11_kind 16 = .ok (.invokevirtual 188, 3) := by decide +kernel
theorem dX11_kind_19 : decode cX11_kind 19 = .ok (.goto 5, 3) := by decide +kernel
theorem dX11_kind_22 : decode cX11_kind 22 = .ok (.ldc 70, 2) := by decide +kernel
theorem dX11_kind_24 : decode cX11_kind 24 = .ok (.ireturn, 1) := by decide +kernel
theorem dX11_as_0 : decode cX11_as 0 = .ok (.aload_n 0, 1) := by decide +kernel
theorem dX11_as_1 : decode cX11_as 1 = .ok (.iconst 0, 1) := by decide +kernel
theorem dX11_as_2 : decode cX11_as 2 = .ok (.putfield 50, 3) := by decide +kernel
theorem dX11_as_5 : decode cX11_as 5 = .ok (.aload_n 0, 1) := by decide +kernel
theorem dX11_as_6 : decode cX11_as 6 = .ok (.iload_n 1, 1) := by decide +kernel
theorem dX11_as_7 : decode cX11_as 7 = .ok (.invokevirtual 206, 3) := by decide +kernel
theorem dX11_as_10 : decode cX11_as 10 = .ok (.ifCond .eq 15, 3) := by decide +kernel
theorem dX11_as_13 : decode cX11_as 13 = .ok (.iload_n 2, 1) := by decide +kernel
theorem dX11_as_14 : decode cX11_as 14 = .ok (.i2l, 1) := by decide +kernel
theorem dX11_as_15 : decode cX11_as 15 = .ok (.lconst 0, 1) := by decide +kernel
theorem dX11_as_16 : decode cX11_as 16 = .ok (.ldc2_w 275, 3) := by decide +kernel
theorem dX11_as_19 : decode cX11_as 19 = .ok (.invokestatic 60, 3) := by decide +kernel
theorem dX11_as_22 : decode cX11_as 22 = .ok (.ifCond .ne 6, 3) := by decide +kernel
theorem dX11_as_25 : decode cX11_as 25 = .ok (.ldc 70, 2) := by decide +kernel
theorem dX11_as_27 : decode cX11_as 27 = .ok (.ireturn, 1) := by decide +kernel
theorem dX11_as_28 : decode cX11_as 28 = .ok (.aload_n 0, 1) := by decide +kernel
theorem dX11_as_29 : decode cX11_as 29 = .ok (.iconst 0, 1) := by decide +kernel
theorem dX11_as_30 : decode cX11_as 30 = .ok (.putfield 54, 3) := by decide +kernel
theorem dX11_as_33 : decode cX11_as 33 = .ok (.aload_n 0, 1) := by decide +kernel
theorem dX11_as_34 : decode cX11_as 34 = .ok (.iload_n 1, 1) := by decide +kernel
theorem dX11_as_35 : decode cX11_as 35 = .ok (.iconst 0, 1) := by decide +kernel
theorem dX11_as_36 : decode cX11_as 36 = .ok (.invokevirtual 188, 3) := by decide +kernel
theorem dX11_as_39 : decode cX11_as 39 = .ok (.iload_n 2, 1) := by decide +kernel
theorem dX11_as_40 : decode cX11_as 40 = .ok (.invokestatic 277, 3) := by decide +kernel
theorem dX11_as_43 : decode cX11_as 43 = .ok (.ifCond .eq 7, 3) := by decide +kernel
theorem dX11_as_46 : decode cX11_as 46 = .ok (.iload_n 1, 1) := by decide +kernel
theorem dX11_as_47 : decode cX11_as 47 = .ok (.goto 8, 3) := by decide +kernel
theorem dX11_as_50 : decode cX11_as 50 = .ok (.aload_n 0, 1) := by decide +kernel
theorem dX11_as_51 : decode cX11_as 51 = .ok (.iconst 3, 1) := by decide +kernel
theorem dX11_as_52 : decode cX11_as 52 = .ok (.invokevirtual 71, 3) := by decide +kernel
theorem dX11_as_55 : decode cX11_as 55 = .ok (.ireturn, 1) := by decide +kernel
theorem dX11_began_0 : decode cX11_began 0 = .ok (.aload_n 0, 1) := by decide +kernel
theorem dX11_began_1 : decode cX11_began 1 = .ok (.getfield 281, 3) := by decide +kernel
theorem dX11_began_4 : decode cX11_began 4 = .ok (.bipush 16, 2) := by decide +kernel
theorem dX11_began_6 : decode cX11_began 6 = .ok (.if_icmp .ge 23, 3) := by decide +kernel
theorem dX11_began_9 : decode cX11_began 9 = .ok (.aload_n 0, 1) := by decide +kernel
theorem dX11_began_10 : decode cX11_began 10 = .ok (.getfield 47, 3) := by decide +kernel
theorem dX11_began_13 : decode cX11_began 13 = .ok (.aload_n 0, 1) := by decide +kernel
theorem dX11_began_14 : decode cX11_began 14 = .ok (.getfield 281, 3) := by decide +kernel
theorem dX11_began_17 : decode cX11_began 17 = .ok (.iload_n 1, 1) := by decide +kernel
theorem dX11_began_18 : decode cX11_began 18 = .ok (.iastore, 1) := by decide +kernel
theorem dX11_began_19 : decode cX11_began 19 = .ok (.aload_n 0, 1) := by decide +kernel
theorem dX11_began_20 : decode cX11_began 20 = .ok (.dup, 1) := by decide +kernel
theorem dX11_began_21 : decode cX11_began 21 = .ok (.getfield 281, 3) := by decide +kernel
theorem dX11_began_24 : decode cX11_began 24 = .ok (.iconst 1, 1) := by decide +kernel
theorem dX11_began_25 : decode cX11_began 25 = .ok (.iadd, 1) := by decide +kernel
theorem dX11_began_26 : decode cX11_began 26 = .ok (.putfield 281, 3) := by decide +kernel
theorem dX11_began_29 : decode cX11_began 29 = .ok (.return_, 1) := by decide +kernel
theorem dX11_plainSize_0 : decode cX11_plainSize 0 = .ok (.aload_n 0, 1) := by decide +kernel
theorem dX11_plainSize_1 : decode cX11_plainSize 1 = .ok (.bipush 10, 2) := by decide +kernel
theorem dX11_plainSize_3 : decode cX11_plainSize 3 = .ok (.invokevirtual 284, 3) := by decide +kernel
theorem dX11_plainSize_6 : decode cX11_plainSize 6 = .ok (.aload_n 0, 1) := by decide +kernel
theorem dX11_plainSize_7 : decode cX11_plainSize 7 = .ok (.iload_n 1, 1) := by decide +kernel
theorem dX11_plainSize_8 : decode cX11_plainSize 8 = .ok (.iconst 2, 1) := by decide +kernel
theorem dX11_plainSize_9 : decode cX11_plainSize 9 = .ok (.invokevirtual 188, 3) := by decide +kernel
theorem dX11_plainSize_12 : decode cX11_plainSize 12 = .ok (.ireturn, 1) := by decide +kernel
theorem dX11_lieSize_0 : decode cX11_lieSize 0 = .ok (.aload_n 0, 1) := by decide +kernel
theorem dX11_lieSize_1 : decode cX11_lieSize 1 = .ok (.iload_n 1, 1) := by decide +kernel
theorem dX11_lieSize_2 : decode cX11_lieSize 2 = .ok (.iconst 0, 1) := by decide +kernel
theorem dX11_lieSize_3 : decode cX11_lieSize 3 = .ok (.invokevirtual 188, 3) := by decide +kernel
theorem dX11_lieSize_6 : decode cX11_lieSize 6 = .ok (.iconst 5, 1) := by decide +kernel
theorem dX11_lieSize_7 : decode cX11_lieSize 7 = .ok (.if_icmp .ne 9, 3) := by decide +kernel
theorem dX11_lieSize_10 : decode cX11_lieSize 10 = .ok (.aload_n 0, 1) := by decide +kernel
theorem dX11_lieSize_11 : decode cX11_lieSize 11 = .ok (.bipush 14, 2) := by decide +kernel
theorem dX11_lieSize_13 : decode cX11_lieSize 13 = .ok (.invokevirtual 284, 3) := by decide +kernel
theorem dX11_lieSize_16 : decode cX11_lieSize 16 = .ok (.aload_n 0, 1) := by decide +kernel
theorem dX11_lieSize_17 : decode cX11_lieSize 17 = .ok (.bipush 13, 2) := by decide +kernel
theorem dX11_lieSize_19 : decode cX11_lieSize 19 = .ok (.invokevirtual 284, 3) := by decide +kernel
theorem dX11_lieSize_22 : decode cX11_lieSize 22 = .ok (.aload_n 0, 1) := by decide +kernel
theorem dX11_lieSize_23 : decode cX11_lieSize 23 = .ok (.iload_n 1, 1) := by decide +kernel
theorem dX11_lieSize_24 : decode cX11_lieSize 24 = .ok (.invokevirtual 287, 3) := by decide +kernel
theorem dX11_lieSize_27 : decode cX11_lieSize 27 = .ok (.bipush 100, 2) := by decide +kernel
theorem dX11_lieSize_29 : decode cX11_lieSize 29 = .ok (.isub, 1) := by decide +kernel
theorem dX11_lieSize_30 : decode cX11_lieSize 30 = .ok (.istore_n 2, 1) := by decide +kernel
theorem dX11_lieSize_31 : decode cX11_lieSize 31 = .ok (.aload_n 0, 1) := by decide +kernel
theorem dX11_lieSize_32 : decode cX11_lieSize 32 = .ok (.iload_n 1, 1) := by decide +kernel
theorem dX11_lieSize_33 : decode cX11_lieSize 33 = .ok (.iconst 0, 1) := by decide +kernel
theorem dX11_lieSize_34 : decode cX11_lieSize 34 = .ok (.invokevirtual 188, 3) := by decide +kernel
theorem dX11_lieSize_37 : decode cX11_lieSize 37 = .ok (.iconst 5, 1) := by decide +kernel
theorem dX11_lieSize_38 : decode cX11_lieSize 38 = .ok (.if_icmp .ne 9, 3) := by decide +kernel
theorem dX11_lieSize_41 : decode cX11_lieSize 41 = .ok (.iconst 2, 1) := by decide +kernel
theorem dX11_lieSize_42 : decode cX11_lieSize 42 = .ok (.iload_n 2, 1) := by decide +kernel
theorem dX11_lieSize_43 : decode cX11_lieSize 43 = .ok (.imul, 1) := by decide +kernel
theorem dX11_lieSize_44 : decode cX11_lieSize 44 = .ok (.goto 4, 3) := by decide +kernel
theorem dX11_lieSize_47 : decode cX11_lieSize 47 = .ok (.iload_n 2, 1) := by decide +kernel
theorem dX11_lieSize_48 : decode cX11_lieSize 48 = .ok (.ireturn, 1) := by decide +kernel
theorem dX11_markOf_0 : decode cX11_markOf 0 = .ok (.aload_n 0, 1) := by decide +kernel
theorem dX11_markOf_1 : decode cX11_markOf 1 = .ok (.iload_n 1, 1) := by decide +kernel
theorem dX11_markOf_2 : decode cX11_markOf 2 = .ok (.iconst 0, 1) := by decide +kernel
theorem dX11_markOf_3 : decode cX11_markOf 3 = .ok (.invokevirtual 188, 3) := by decide +kernel
theorem dX11_markOf_6 : decode cX11_markOf 6 = .ok (.istore_n 2, 1) := by decide +kernel
theorem dX11_markOf_7 : decode cX11_markOf 7 = .ok (.iload_n 2, 1) := by decide +kernel
theorem dX11_markOf_8 : decode cX11_markOf 8 = .ok (.iconst 4, 1) := by decide +kernel
theorem dX11_markOf_9 : decode cX11_markOf 9 = .ok (.if_icmp .lt 23, 3) := by decide +kernel
theorem dX11_markOf_12 : decode cX11_markOf 12 = .ok (.aload_n 0, 1) := by decide +kernel
theorem dX11_markOf_13 : decode cX11_markOf 13 = .ok (.bipush 23, 2) := by decide +kernel
theorem dX11_markOf_15 : decode cX11_markOf 15 = .ok (.invokevirtual 284, 3) := by decide +kernel
theorem dX11_markOf_18 : decode cX11_markOf 18 = .ok (.aload_n 0, 1) := by decide +kernel
theorem dX11_markOf_19 : decode cX11_markOf 19 = .ok (.bipush 20, 2) := by decide +kernel
theorem dX11_markOf_21 : decode cX11_markOf 21 = .ok (.invokevirtual 284, 3) := by decide +kernel
theorem dX11_markOf_24 : decode cX11_markOf 24 = .ok (.iload_n 1, 1) := by decide +kernel
theorem dX11_markOf_25 : decode cX11_markOf 25 = .ok (.aload_n 0, 1) := by decide +kernel
theorem dX11_markOf_26 : decode cX11_markOf 26 = .ok (.iload_n 1, 1) := by decide +kernel
theorem dX11_markOf_27 : decode cX11_markOf 27 = .ok (.invokevirtual 290, 3) := by decide +kernel
theorem dX11_markOf_30 : decode cX11_markOf 30 = .ok (.isub, 1) := by decide +kernel
theorem dX11_markOf_31 : decode cX11_markOf 31 = .ok (.ireturn, 1) := by decide +kernel
theorem dX11_markOf_32 : decode cX11_markOf 32 = .ok (.iload_n 2, 1) := by decide +kernel
theorem dX11_markOf_33 : decode cX11_markOf 33 = .ok (.iconst 3, 1) := by decide +kernel
theorem dX11_markOf_34 : decode cX11_markOf 34 = .ok (.if_icmp .ne 9, 3) := by decide +kernel
theorem dX11_markOf_37 : decode cX11_markOf 37 = .ok (.aload_n 0, 1) := by decide +kernel
theorem dX11_markOf_38 : decode cX11_markOf 38 = .ok (.bipush 24, 2) := by decide +kernel
theorem dX11_markOf_40 : decode cX11_markOf 40 = .ok (.invokevirtual 284, 3) := by decide +kernel
theorem dX11_markOf_43 : decode cX11_markOf 43 = .ok (.iload_n 2, 1) := by decide +kernel
theorem dX11_markOf_44 : decode cX11_markOf 44 = .ok (.iconst 1, 1) := by decide +kernel
theorem dX11_markOf_45 : decode cX11_markOf 45 = .ok (.if_icmp .eq 9, 3) := by decide +kernel
theorem dX11_markOf_48 : decode cX11_markOf 48 = .ok (.aload_n 0, 1) := by decide +kernel
theorem dX11_markOf_49 : decode cX11_markOf 49 = .ok (.bipush 22, 2) := by decide +kernel
theorem dX11_markOf_51 : decode cX11_markOf 51 = .ok (.invokevirtual 284, 3) := by decide +kernel
theorem dX11_markOf_54 : decode cX11_markOf 54 = .ok (.aload_n 0, 1) := by decide +kernel
theorem dX11_markOf_55 : decode cX11_markOf 55 = .ok (.bipush 21, 2) := by decide +kernel
theorem dX11_markOf_57 : decode cX11_markOf 57 = .ok (.invokevirtual 284, 3) := by decide +kernel
theorem dX11_markOf_60 : decode cX11_markOf 60 = .ok (.aload_n 0, 1) := by decide +kernel
theorem dX11_markOf_61 : decode cX11_markOf 61 = .ok (.bipush 20, 2) := by decide +kernel
theorem dX11_markOf_63 : decode cX11_markOf 63 = .ok (.invokevirtual 284, 3) := by decide +kernel
theorem dX11_markOf_66 : decode cX11_markOf 66 = .ok (.iload_n 1, 1) := by decide +kernel
theorem dX11_markOf_67 : decode cX11_markOf 67 = .ok (.aload_n 0, 1) := by decide +kernel
theorem dX11_markOf_68 : decode cX11_markOf 68 = .ok (.iload_n 1, 1) := by decide +kernel
theorem dX11_markOf_69 : decode cX11_markOf 69 = .ok (.iconst 1, 1) := by decide +kernel
theorem dX11_markOf_70 : decode cX11_markOf 70 = .ok (.invokevirtual 188, 3) := by decide +kernel
theorem dX11_markOf_73 : decode cX11_markOf 73 = .ok (.iadd, 1) := by decide +kernel
theorem dX11_markOf_74 : decode cX11_markOf 74 = .ok (.iload_n 2, 1) := by decide +kernel
theorem dX11_markOf_75 : decode cX11_markOf 75 = .ok (.iconst 1, 1) := by decide +kernel
theorem dX11_markOf_76 : decode cX11_markOf 76 = .ok (.if_icmp .ne 7, 3) := by decide +kernel
theorem dX11_markOf_79 : decode cX11_markOf 79 = .ok (.iconst 0, 1) := by decide +kernel
theorem dX11_markOf_80 : decode cX11_markOf 80 = .ok (.goto 6, 3) := by decide +kernel
theorem dX11_markOf_83 : decode cX11_markOf 83 = .ok (.sipush 1000, 3) := by decide +kernel
theorem dX11_markOf_86 : decode cX11_markOf 86 = .ok (.isub, 1) := by decide +kernel
theorem dX11_markOf_87 : decode cX11_markOf 87 = .ok (.istore_n 3, 1) := by decide +kernel
theorem dX11_markOf_88 : decode cX11_markOf 88 = .ok (.iload_n 2, 1) := by decide +kernel
theorem dX11_markOf_89 : decode cX11_markOf 89 = .ok (.iconst 3, 1) := by decide +kernel
theorem dX11_markOf_90 : decode cX11_markOf 90 = .ok (.if_icmp .ne 9, 3) := by decide +kernel
theorem dX11_markOf_93 : decode cX11_markOf 93 = .ok (.iconst 2, 1) := by decide +kernel
theorem dX11_markOf_94 : decode cX11_markOf 94 = .ok (.iload_n 3, 1) := by decide +kernel
theorem dX11_markOf_95 : decode cX11_markOf 95 = .ok (.imul, 1) := by decide +kernel
theorem dX11_markOf_96 : decode cX11_markOf 96 = .ok (.goto 4, 3) := by decide +kernel
theorem dX11_markOf_99 : decode cX11_markOf 99 = .ok (.iload_n 3, 1) := by decide +kernel
theorem dX11_markOf_100 : decode cX11_markOf 100 = .ok (.ireturn, 1) := by decide +kernel
theorem dX11_sizeOf_0 : decode cX11_sizeOf 0 = .ok (.aload_n 0, 1) := by decide +kernel
theorem dX11_sizeOf_1 : decode cX11_sizeOf 1 = .ok (.iload_n 1, 1) := by decide +kernel
theorem dX11_sizeOf_2 : decode cX11_sizeOf 2 = .ok (.iconst 0, 1) := by decide +kernel
theorem dX11_sizeOf_3 : decode cX11_sizeOf 3 = .ok (.invokevirtual 188, 3) := by decide +kernel
theorem dX11_sizeOf_6 : decode cX11_sizeOf 6 = .ok (.istore_n 2, 1) := by decide +kernel
theorem dX11_sizeOf_7 : decode cX11_sizeOf 7 = .ok (.iload_n 2, 1) := by decide +kernel
theorem dX11_sizeOf_8 : decode cX11_sizeOf 8 = .ok (.iconst 4, 1) := by decide +kernel
theorem dX11_sizeOf_9 : decode cX11_sizeOf 9 = .ok (.if_icmp .lt 9, 3) := by decide +kernel
theorem dX11_sizeOf_12 : decode cX11_sizeOf 12 = .ok (.aload_n 0, 1) := by decide +kernel
theorem dX11_sizeOf_13 : decode cX11_sizeOf 13 = .ok (.iload_n 1, 1) := by decide +kernel
theorem dX11_sizeOf_14 : decode cX11_sizeOf 14 = .ok (.invokevirtual 290, 3) := by decide +kernel
theorem dX11_sizeOf_17 : decode cX11_sizeOf 17 = .ok (.ireturn, 1) := by decide +kernel
theorem dX11_sizeOf_18 : decode cX11_sizeOf 18 = .ok (.iload_n 2, 1) := by decide +kernel
theorem dX11_sizeOf_19 : decode cX11_sizeOf 19 = .ok (.iconst 3, 1) := by decide +kernel
theorem dX11_sizeOf_20 : decode cX11_sizeOf 20 = .ok (.if_icmp .ne 9, 3) := by decide +kernel
theorem dX11_sizeOf_23 : decode cX11_sizeOf 23 = .ok (.aload_n 0, 1) := by decide +kernel
theorem dX11_sizeOf_24 : decode cX11_sizeOf 24 = .ok (.bipush 12, 2) := by decide +kernel
theorem dX11_sizeOf_26 : decode cX11_sizeOf 26 = .ok (.invokevirtual 284, 3) := by decide +kernel
theorem dX11_sizeOf_29 : decode cX11_sizeOf 29 = .ok (.aload_n 0, 1) := by decide +kernel
theorem dX11_sizeOf_30 : decode cX11_sizeOf 30 = .ok (.bipush 11, 2) := by decide +kernel
theorem dX11_sizeOf_32 : decode cX11_sizeOf 32 = .ok (.invokevirtual 284, 3) := by decide +kernel
theorem dX11_sizeOf_35 : decode cX11_sizeOf 35 = .ok (.aload_n 0, 1) := by decide +kernel
theorem dX11_sizeOf_36 : decode cX11_sizeOf 36 = .ok (.iload_n 1, 1) := by decide +kernel
theorem dX11_sizeOf_37 : decode cX11_sizeOf 37 = .ok (.invokevirtual 287, 3) := by decide +kernel
theorem dX11_sizeOf_40 : decode cX11_sizeOf 40 = .ok (.istore_n 3, 1) := by decide +kernel
theorem dX11_sizeOf_41 : decode cX11_sizeOf 41 = .ok (.iload_n 3, 1) := by decide +kernel
theorem dX11_sizeOf_42 : decode cX11_sizeOf 42 = .ok (.aload_n 0, 1) := by decide +kernel
theorem dX11_sizeOf_43 : decode cX11_sizeOf 43 = .ok (.iload_n 1, 1) := by decide +kernel
theorem dX11_sizeOf_44 : decode cX11_sizeOf 44 = .ok (.invokevirtual 293, 3) := by decide +kernel
theorem dX11_sizeOf_47 : decode cX11_sizeOf 47 = .ok (.iadd, 1) := by decide +kernel
theorem dX11_sizeOf_48 : decode cX11_sizeOf 48 = .ok (.istore_n 3, 1) := by decide +kernel
theorem dX11_sizeOf_49 : decode cX11_sizeOf 49 = .ok (.iload_n 2, 1) := by decide +kernel
theorem dX11_sizeOf_50 : decode cX11_sizeOf 50 = .ok (.iconst 3, 1) := by decide +kernel
theorem dX11_sizeOf_51 : decode cX11_sizeOf 51 = .ok (.if_icmp .ne 8, 3) := by decide +kernel
theorem dX11_sizeOf_54 : decode cX11_sizeOf 54 = .ok (.iload_n 3, 1) := by decide +kernel
theorem dX11_sizeOf_55 : decode cX11_sizeOf 55 = .ok (.ineg, 1) := by decide +kernel
theorem dX11_sizeOf_56 : decode cX11_sizeOf 56 = .ok (.goto 4, 3) := by decide +kernel
theorem dX11_sizeOf_59 : decode cX11_sizeOf 59 = .ok (.iload_n 3, 1) := by decide +kernel
theorem dX11_sizeOf_60 : decode cX11_sizeOf 60 = .ok (.ireturn, 1) := by decide +kernel
theorem dX11_ask_0 : decode cX11_ask 0 = .ok (.aload_n 0, 1) := by decide +kernel
theorem dX11_ask_1 : decode cX11_ask 1 = .ok (.iconst 0, 1) := by decide +kernel
theorem dX11_ask_2 : decode cX11_ask 2 = .ok (.putfield 50, 3) := by decide +kernel
theorem dX11_ask_5 : decode cX11_ask 5 = .ok (.aload_n 0, 1) := by decide +kernel
theorem dX11_ask_6 : decode cX11_ask 6 = .ok (.iload_n 1, 1) := by decide +kernel
theorem dX11_ask_7 : decode cX11_ask 7 = .ok (.invokevirtual 206, 3) := by decide +kernel
theorem dX11_ask_10 : decode cX11_ask 10 = .ok (.ifCond .eq 13, 3) := by decide +kernel
theorem dX11_ask_13 : decode cX11_ask 13 = .ok (.iload_n 2, 1) := by decide +kernel
theorem dX11_ask_14 : decode cX11_ask 14 = .ok (.i2l, 1) := by decide +kernel
theorem dX11_ask_15 : decode cX11_ask 15 = .ok (.lconst 0, 1) := by decide +kernel
theorem dX11_ask_16 : decode cX11_ask 16 = .ok (.lconst 1, 1) := by decide +kernel
theorem dX11_ask_17 : decode cX11_ask 17 = .ok (.invokestatic 60, 3) := by decide +kernel
theorem dX11_ask_20 : decode cX11_ask 20 = .ok (.ifCond .ne 6, 3) := by decide +kernel
theorem dX11_ask_23 : decode cX11_ask 23 = .ok (.ldc 70, 2) := by decide +kernel
theorem dX11_ask_25 : decode cX11_ask 25 = .ok (.ireturn, 1) := by decide +kernel
theorem dX11_ask_26 : decode cX11_ask 26 = .ok (.aload_n 0, 1) := by decide +kernel
theorem dX11_ask_27 : decode cX11_ask 27 = .ok (.iconst 0, 1) := by decide +kernel
theorem dX11_ask_28 : decode cX11_ask 28 = .ok (.putfield 281, 3) := by decide +kernel
theorem dX11_ask_31 : decode cX11_ask 31 = .ok (.iload_n 2, 1) := by decide +kernel
theorem dX11_ask_32 : decode cX11_ask 32 = .ok (.ifCond .ne 11, 3) := by decide +kernel
theorem dX11_ask_35 : decode cX11_ask 35 = .ok (.aload_n 0, 1) := by decide +kernel
theorem dX11_ask_36 : decode cX11_ask 36 = .ok (.iload_n 1, 1) := by decide +kernel
theorem dX11_ask_37 : decode cX11_ask 37 = .ok (.invokevirtual 296, 3) := by decide +kernel
theorem dX11_ask_40 : decode cX11_ask 40 = .ok (.goto 8, 3) := by decide +kernel
theorem dX11_ask_43 : decode cX11_ask 43 = .ok (.aload_n 0, 1) := by decide +kernel
theorem dX11_ask_44 : decode cX11_ask 44 = .ok (.iload_n 1, 1) := by decide +kernel
theorem dX11_ask_45 : decode cX11_ask 45 = .ok (.invokevirtual 293, 3) := by decide +kernel
theorem dX11_ask_48 : decode cX11_ask 48 = .ok (.ireturn, 1) := by decide +kernel
theorem dX11_trace_0 : decode cX11_trace 0 = .ok (.aload_n 0, 1) := by decide +kernel
theorem dX11_trace_1 : decode cX11_trace 1 = .ok (.iconst 0, 1) := by decide +kernel
theorem dX11_trace_2 : decode cX11_trace 2 = .ok (.putfield 50, 3) := by decide +kernel
theorem dX11_trace_5 : decode cX11_trace 5 = .ok (.iload_n 1, 1) := by decide +kernel
theorem dX11_trace_6 : decode cX11_trace 6 = .ok (.i2l, 1) := by decide +kernel
theorem dX11_trace_7 : decode cX11_trace 7 = .ok (.lconst 0, 1) := by decide +kernel
theorem dX11_trace_8 : decode cX11_trace 8 = .ok (.aload_n 0, 1) := by decide +kernel
theorem dX11_trace_9 : decode cX11_trace 9 = .ok (.getfield 281, 3) := by decide +kernel
theorem dX11_trace_12 : decode cX11_trace 12 = .ok (.iconst 1, 1) := by decide +kernel
theorem dX11_trace_13 : decode cX11_trace 13 = .ok (.isub, 1) := by decide +kernel
theorem dX11_trace_14 : decode cX11_trace 14 = .ok (.i2l, 1) := by decide +kernel
theorem dX11_trace_15 : decode cX11_trace 15 = .ok (.invokestatic 60, 3) := by decide +kernel
theorem dX11_trace_18 : decode cX11_trace 18 = .ok (.ifCond .eq 12, 3) := by decide +kernel
theorem dX11_trace_21 : decode cX11_trace 21 = .ok (.aload_n 0, 1) := by decide +kernel
theorem dX11_trace_22 : decode cX11_trace 22 = .ok (.getfield 47, 3) := by decide +kernel
theorem dX11_trace_25 : decode cX11_trace 25 = .ok (.iload_n 1, 1) := by decide +kernel
theorem dX11_trace_26 : decode cX11_trace 26 = .ok (.iaload, 1) := by decide +kernel
theorem dX11_trace_27 : decode cX11_trace 27 = .ok (.goto 5, 3) := by decide +kernel
theorem dX11_trace_30 : decode cX11_trace 30 = .ok (.ldc 86, 2) := by decide +kernel
theorem dX11_trace_32 : decode cX11_trace 32 = .ok (.ireturn, 1) := by decide +kernel
theorem dX11_count_0 : decode cX11_count 0 = .ok (.aload_n 0, 1) := by decide +kernel
theorem dX11_count_1 : decode cX11_count 1 = .ok (.iconst 0, 1) := by decide +kernel
theorem dX11_count_2 : decode cX11_count 2 = .ok (.putfield 50, 3) := by decide +kernel
theorem dX11_count_5 : decode cX11_count 5 = .ok (.iconst 0, 1) := by decide +kernel
theorem dX11_count_6 : decode cX11_count 6 = .ok (.istore_n 2, 1) := by decide +kernel
theorem dX11_count_7 : decode cX11_count 7 = .ok (.iload_n 1, 1) := by decide +kernel
theorem dX11_count_8 : decode cX11_count 8 = .ok (.tableswitch 161 0 6 #[44, 77, 84, 91, 151, 91, 156], 44) := by decide +kernel
theorem dX11_count_52 : decode cX11_count 52 = .ok (.iconst 0, 1) := by decide +kernel
theorem dX11_count_53 : decode cX11_count 53 = .ok (.istore_n 3, 1) := by decide +kernel
theorem dX11_count_54 : decode cX11_count 54 = .ok (.iload_n 3, 1) := by decide +kernel
theorem dX11_count_55 : decode cX11_count 55 = .ok (.bipush 8, 2) := by decide +kernel
theorem dX11_count_57 : decode cX11_count 57 = .ok (.if_icmp .ge 26, 3) := by decide +kernel
theorem dX11_count_60 : decode cX11_count 60 = .ok (.iload_n 2, 1) := by decide +kernel
theorem dX11_count_61 : decode cX11_count 61 = .ok (.aload_n 0, 1) := by decide +kernel
theorem dX11_count_62 : decode cX11_count 62 = .ok (.getfield 7, 3) := by decide +kernel
theorem dX11_count_65 : decode cX11_count 65 = .ok (.iload_n 3, 1) := by decide +kernel
theorem dX11_count_66 : decode cX11_count 66 = .ok (.iaload, 1) := by decide +kernel
theorem dX11_count_67 : decode cX11_count 67 = .ok (.ifCond .lt 7, 3) := by decide +kernel
theorem dX11_count_70 : decode cX11_count 70 = .ok (.iconst 1, 1) := by decide +kernel
theorem dX11_count_71 : decode cX11_count 71 = .ok (.goto 4, 3) := by decide +kernel
theorem dX11_count_74 : decode cX11_count 74 = .ok (.iconst 0, 1) := by decide +kernel
theorem dX11_count_75 : decode cX11_count 75 = .ok (.iadd, 1) := by decide +kernel
theorem dX11_count_76 : decode cX11_count 76 = .ok (.istore_n 2, 1) := by decide +kernel
theorem dX11_count_77 : decode cX11_count 77 = .ok (.iinc 3 1, 3) := by decide +kernel
theorem dX11_count_80 : decode cX11_count 80 = .ok (.goto (-26), 3) := by decide +kernel
theorem dX11_count_83 : decode cX11_count 83 = .ok (.iload_n 2, 1) := by decide +kernel
theorem dX11_count_84 : decode cX11_count 84 = .ok (.ireturn, 1) := by decide +kernel
theorem dX11_count_85 : decode cX11_count 85 = .ok (.aload_n 0, 1) := by decide +kernel
theorem dX11_count_86 : decode cX11_count 86 = .ok (.getfield 19, 3) := by decide +kernel
theorem dX11_count_89 : decode cX11_count 89 = .ok (.iconst 2, 1) := by decide +kernel
theorem dX11_count_90 : decode cX11_count 90 = .ok (.iaload, 1) := by decide +kernel
theorem dX11_count_91 : decode cX11_count 91 = .ok (.ireturn, 1) := by decide +kernel
theorem dX11_count_92 : decode cX11_count 92 = .ok (.aload_n 0, 1) := by decide +kernel
theorem dX11_count_93 : decode cX11_count 93 = .ok (.getfield 19, 3) := by decide +kernel
theorem dX11_count_96 : decode cX11_count 96 = .ok (.iconst 3, 1) := by decide +kernel
theorem dX11_count_97 : decode cX11_count 97 = .ok (.iaload, 1) := by decide +kernel
theorem dX11_count_98 : decode cX11_count 98 = .ok (.ireturn, 1) := by decide +kernel
theorem dX11_count_99 : decode cX11_count 99 = .ok (.iconst 0, 1) := by decide +kernel
theorem dX11_count_100 : decode cX11_count 100 = .ok (.istore_n 3, 1) := by decide +kernel
theorem dX11_count_101 : decode cX11_count 101 = .ok (.iload_n 3, 1) := by decide +kernel
theorem dX11_count_102 : decode cX11_count 102 = .ok (.aload_n 0, 1) := by decide +kernel
theorem dX11_count_103 : decode cX11_count 103 = .ok (.getfield 19, 3) := by decide +kernel
theorem dX11_count_106 : decode cX11_count 106 = .ok (.iconst 3, 1) := by decide +kernel
theorem dX11_count_107 : decode cX11_count 107 = .ok (.iaload, 1) := by decide +kernel
theorem dX11_count_108 : decode cX11_count 108 = .ok (.if_icmp .ge 49, 3) := by decide +kernel
theorem dX11_count_111 : decode cX11_count 111 = .ok (.iload_n 2, 1) := by decide +kernel
theorem dX11_count_112 : decode cX11_count 112 = .ok (.iload_n 1, 1) := by decide +kernel
theorem dX11_count_113 : decode cX11_count 113 = .ok (.iconst 3, 1) := by decide +kernel
theorem dX11_count_114 : decode cX11_count 114 = .ok (.if_icmp .ne 20, 3) := by decide +kernel
theorem dX11_count_117 : decode cX11_count 117 = .ok (.aload_n 0, 1) := by decide +kernel
theorem dX11_count_118 : decode cX11_count 118 = .ok (.iload_n 3, 1) := by decide +kernel
theorem dX11_count_119 : decode cX11_count 119 = .ok (.iconst 3, 1) := by decide +kernel
theorem dX11_count_120 : decode cX11_count 120 = .ok (.invokevirtual 188, 3) := by decide +kernel
theorem dX11_count_123 : decode cX11_count 123 = .ok (.ifCond .lt 7, 3) := by decide +kernel
theorem dX11_count_126 : decode cX11_count 126 = .ok (.iconst 1, 1) := by decide +kernel
theorem dX11_count_127 : decode cX11_count 127 = .ok (.goto 22, 3) := by decide +kernel
theorem dX11_count_130 : decode cX11_count 130 = .ok (.iconst 0, 1) := by decide +kernel
theorem dX11_count_131 : decode cX11_count 131 = .ok (.goto 18, 3) := by decide +kernel
theorem dX11_count_134 : decode cX11_count 134 = .ok (.aload_n 0, 1) := by decide +kernel
theorem dX11_count_135 : decode cX11_count 135 = .ok (.iload_n 3, 1) := by decide +kernel
theorem dX11_count_136 : decode cX11_count 136 = .ok (.iconst 4, 1) := by decide +kernel
theorem dX11_count_137 : decode cX11_count 137 = .ok (.invokevirtual 188, 3) := by decide +kernel
theorem dX11_count_140 : decode cX11_count 140 = .ok (.iconst 2, 1) := by decide +kernel
theorem dX11_count_141 : decode cX11_count 141 = .ok (.if_icmp .ne 7, 3) := by decide +kernel
theorem dX11_count_144 : decode cX11_count 144 = .ok (.iconst 1, 1) := by decide +kernel
theorem dX11_count_145 : decode cX11_count 145 = .ok (.goto 4, 3) := by decide +kernel
theorem dX11_count_148 : decode cX11_count 148 = .ok (.iconst 0, 1) := by decide +kernel
theorem dX11_count_149 : decode cX11_count 149 = .ok (.iadd, 1) := by decide +kernel
theorem dX11_count_150 : decode cX11_count 150 = .ok (.istore_n 2, 1) := by decide +kernel
theorem dX11_count_151 : decode cX11_count 151 = .ok (.iinc 3 1, 3) := by decide +kernel
theorem dX11_count_154 : decode cX11_count 154 = .ok (.goto (-53), 3) := by decide +kernel
theorem dX11_count_157 : decode cX11_count 157 = .ok (.iload_n 2, 1) := by decide +kernel
theorem dX11_count_158 : decode cX11_count 158 = .ok (.ireturn, 1) := by decide +kernel
theorem dX11_count_159 : decode cX11_count 159 = .ok (.aload_n 0, 1) := by decide +kernel
theorem dX11_count_160 : decode cX11_count 160 = .ok (.getfield 181, 3) := by decide +kernel
theorem dX11_count_163 : decode cX11_count 163 = .ok (.ireturn, 1) := by decide +kernel
theorem dX11_count_164 : decode cX11_count 164 = .ok (.aload_n 0, 1) := by decide +kernel
theorem dX11_count_165 : decode cX11_count 165 = .ok (.getfield 77, 3) := by decide +kernel
theorem dX11_count_168 : decode cX11_count 168 = .ok (.ireturn, 1) := by decide +kernel
theorem dX11_count_169 : decode cX11_count 169 = .ok (.ldc 70, 2) := by decide +kernel
theorem dX11_count_171 : decode cX11_count 171 = .ok (.ireturn, 1) := by decide +kernel
theorem dX11_status_0 : decode cX11_status 0 = .ok (.aload_n 0, 1) := by decide +kernel
theorem dX11_status_1 : decode cX11_status 1 = .ok (.iconst 0, 1) := by decide +kernel
theorem dX11_status_2 : decode cX11_status 2 = .ok (.putfield 50, 3) := by decide +kernel
theorem dX11_status_5 : decode cX11_status 5 = .ok (.aload_n 0, 1) := by decide +kernel
theorem dX11_status_6 : decode cX11_status 6 = .ok (.getfield 54, 3) := by decide +kernel
theorem dX11_status_9 : decode cX11_status 9 = .ok (.ireturn, 1) := by decide +kernel
theorem dJ6_bitCount_0f7a4_0 : decode cJ6_bitCount_0f7a4 0 = .ok (.iload_n 0, 1) := by decide +kernel
theorem dJ6_bitCount_0f7a4_1 : decode cJ6_bitCount_0f7a4 1 = .ok (.iload_n 0, 1) := by decide +kernel
theorem dJ6_bitCount_0f7a4_2 : decode cJ6_bitCount_0f7a4 2 = .ok (.iconst 1, 1) := by decide +kernel
theorem dJ6_bitCount_0f7a4_3 : decode cJ6_bitCount_0f7a4 3 = .ok (.iushr, 1) := by decide +kernel
theorem dJ6_bitCount_0f7a4_4 : decode cJ6_bitCount_0f7a4 4 = .ok (.ldc_w 265, 3) := by decide +kernel
theorem dJ6_bitCount_0f7a4_7 : decode cJ6_bitCount_0f7a4 7 = .ok (.iand, 1) := by decide +kernel
theorem dJ6_bitCount_0f7a4_8 : decode cJ6_bitCount_0f7a4 8 = .ok (.isub, 1) := by decide +kernel
theorem dJ6_bitCount_0f7a4_9 : decode cJ6_bitCount_0f7a4 9 = .ok (.istore_n 0, 1) := by decide +kernel
theorem dJ6_bitCount_0f7a4_10 : decode cJ6_bitCount_0f7a4 10 = .ok (.iload_n 0, 1) := by decide +kernel
theorem dJ6_bitCount_0f7a4_11 : decode cJ6_bitCount_0f7a4 11 = .ok (.ldc_w 266, 3) := by decide +kernel
theorem dJ6_bitCount_0f7a4_14 : decode cJ6_bitCount_0f7a4 14 = .ok (.iand, 1) := by decide +kernel
theorem dJ6_bitCount_0f7a4_15 : decode cJ6_bitCount_0f7a4 15 = .ok (.iload_n 0, 1) := by decide +kernel
theorem dJ6_bitCount_0f7a4_16 : decode cJ6_bitCount_0f7a4 16 = .ok (.iconst 2, 1) := by decide +kernel
theorem dJ6_bitCount_0f7a4_17 : decode cJ6_bitCount_0f7a4 17 = .ok (.iushr, 1) := by decide +kernel
theorem dJ6_bitCount_0f7a4_18 : decode cJ6_bitCount_0f7a4 18 = .ok (.ldc_w 266, 3) := by decide +kernel
theorem dJ6_bitCount_0f7a4_21 : decode cJ6_bitCount_0f7a4 21 = .ok (.iand, 1) := by decide +kernel
theorem dJ6_bitCount_0f7a4_22 : decode cJ6_bitCount_0f7a4 22 = .ok (.iadd, 1) := by decide +kernel
theorem dJ6_bitCount_0f7a4_23 : decode cJ6_bitCount_0f7a4 23 = .ok (.istore_n 0, 1) := by decide +kernel
theorem dJ6_bitCount_0f7a4_24 : decode cJ6_bitCount_0f7a4 24 = .ok (.iload_n 0, 1) := by decide +kernel
theorem dJ6_bitCount_0f7a4_25 : decode cJ6_bitCount_0f7a4 25 = .ok (.iload_n 0, 1) := by decide +kernel
theorem dJ6_bitCount_0f7a4_26 : decode cJ6_bitCount_0f7a4 26 = .ok (.iconst 4, 1) := by decide +kernel
theorem dJ6_bitCount_0f7a4_27 : decode cJ6_bitCount_0f7a4 27 = .ok (.iushr, 1) := by decide +kernel
theorem dJ6_bitCount_0f7a4_28 : decode cJ6_bitCount_0f7a4 28 = .ok (.iadd, 1) := by decide +kernel
theorem dJ6_bitCount_0f7a4_29 : decode cJ6_bitCount_0f7a4 29 = .ok (.ldc_w 267, 3) := by decide +kernel
theorem dJ6_bitCount_0f7a4_32 : decode cJ6_bitCount_0f7a4 32 = .ok (.iand, 1) := by decide +kernel
theorem dJ6_bitCount_0f7a4_33 : decode cJ6_bitCount_0f7a4 33 = .ok (.istore_n 0, 1) := by decide +kernel
theorem dJ6_bitCount_0f7a4_34 : decode cJ6_bitCount_0f7a4 34 = .ok (.iload_n 0, 1) := by decide +kernel
theorem dJ6_bitCount_0f7a4_35 : decode cJ6_bitCount_0f7a4 35 = .ok (.iload_n 0, 1) := by decide +kernel
theorem dJ6_bitCount_0f7a4_36 : decode cJ6_bitCount_0f7a4 36 = .ok (.bipush 8, 2) := by decide +kernel
theorem dJ6_bitCount_0f7a4_38 : decode cJ6_bitCount_0f7a4 38 = .ok (.iushr, 1) := by decide +kernel
theorem dJ6_bitCount_0f7a4_39 : decode cJ6_bitCount_0f7a4 39 = .ok (.iadd, 1) := by decide +kernel
theorem dJ6_bitCount_0f7a4_40 : decode cJ6_bitCount_0f7a4 40 = .ok (.istore_n 0, 1) := by decide +kernel
theorem dJ6_bitCount_0f7a4_41 : decode cJ6_bitCount_0f7a4 41 = .ok (.iload_n 0, 1) := by decide +kernel
theorem dJ6_bitCount_0f7a4_42 : decode cJ6_bitCount_0f7a4 42 = .ok (.iload_n 0, 1) := by decide +kernel
theorem dJ6_bitCount_0f7a4_43 : decode cJ6_bitCount_0f7a4 43 = .ok (.bipush 16, 2) := by decide +kernel
theorem dJ6_bitCount_0f7a4_45 : decode cJ6_bitCount_0f7a4 45 = .ok (.iushr, 1) := by decide +kernel
theorem dJ6_bitCount_0f7a4_46 : decode cJ6_bitCount_0f7a4 46 = .ok (.iadd, 1) := by decide +kernel
theorem dJ6_bitCount_0f7a4_47 : decode cJ6_bitCount_0f7a4 47 = .ok (.istore_n 0, 1) := by decide +kernel
theorem dJ6_bitCount_0f7a4_48 : decode cJ6_bitCount_0f7a4 48 = .ok (.iload_n 0, 1) := by decide +kernel
theorem dJ6_bitCount_0f7a4_49 : decode cJ6_bitCount_0f7a4 49 = .ok (.bipush 63, 2) := by decide +kernel
theorem dJ6_bitCount_0f7a4_51 : decode cJ6_bitCount_0f7a4 51 = .ok (.iand, 1) := by decide +kernel
theorem dJ6_bitCount_0f7a4_52 : decode cJ6_bitCount_0f7a4 52 = .ok (.ireturn, 1) := by decide +kernel
theorem dJ9_max_7cf53_0 : decode cJ9_max_7cf53 0 = .ok (.iload_n 0, 1) := by decide +kernel
theorem dJ9_max_7cf53_1 : decode cJ9_max_7cf53 1 = .ok (.iload_n 1, 1) := by decide +kernel
theorem dJ9_max_7cf53_2 : decode cJ9_max_7cf53 2 = .ok (.if_icmp .lt 7, 3) := by decide +kernel
theorem dJ9_max_7cf53_5 : decode cJ9_max_7cf53 5 = .ok (.iload_n 0, 1) := by decide +kernel
theorem dJ9_max_7cf53_6 : decode cJ9_max_7cf53 6 = .ok (.goto 4, 3) := by decide +kernel
theorem dJ9_max_7cf53_9 : decode cJ9_max_7cf53 9 = .ok (.iload_n 1, 1) := by decide +kernel
theorem dJ9_max_7cf53_10 : decode cJ9_max_7cf53 10 = .ok (.ireturn, 1) := by decide +kernel
theorem dJ9_min_7cf53_0 : decode cJ9_min_7cf53 0 = .ok (.iload_n 0, 1) := by decide +kernel
theorem dJ9_min_7cf53_1 : decode cJ9_min_7cf53 1 = .ok (.iload_n 1, 1) := by decide +kernel
theorem dJ9_min_7cf53_2 : decode cJ9_min_7cf53 2 = .ok (.if_icmp .gt 7, 3) := by decide +kernel
theorem dJ9_min_7cf53_5 : decode cJ9_min_7cf53 5 = .ok (.iload_n 0, 1) := by decide +kernel
theorem dJ9_min_7cf53_6 : decode cJ9_min_7cf53 6 = .ok (.goto 4, 3) := by decide +kernel
theorem dJ9_min_7cf53_9 : decode cJ9_min_7cf53 9 = .ok (.iload_n 1, 1) := by decide +kernel
theorem dJ9_min_7cf53_10 : decode cJ9_min_7cf53 10 = .ok (.ireturn, 1) := by decide +kernel
theorem dJ0_length_8abf5_0 : decode cJ0_length_8abf5 0 = .ok (.aload_n 0, 1) := by decide +kernel
theorem dJ0_length_8abf5_1 : decode cJ0_length_8abf5 1 = .ok (.getfield 9, 3) := by decide +kernel
theorem dJ0_length_8abf5_4 : decode cJ0_length_8abf5 4 = .ok (.arraylength, 1) := by decide +kernel
theorem dJ0_length_8abf5_5 : decode cJ0_length_8abf5 5 = .ok (.aload_n 0, 1) := by decide +kernel
theorem dJ0_length_8abf5_6 : decode cJ0_length_8abf5 6 = .ok (.invokevirtual 335, 3) := by decide +kernel
theorem dJ0_length_8abf5_9 : decode cJ0_length_8abf5 9 = .ok (.ishr, 1) := by decide +kernel
theorem dJ0_length_8abf5_10 : decode cJ0_length_8abf5 10 = .ok (.ireturn, 1) := by decide +kernel
theorem dJ0_charAt_5068e_0 : decode cJ0_charAt_5068e 0 = .ok (.aload_n 0, 1) := by decide +kernel
theorem dJ0_charAt_5068e_1 : decode cJ0_charAt_5068e 1 = .ok (.invokevirtual 492, 3) := by decide +kernel
theorem dJ0_charAt_5068e_4 : decode cJ0_charAt_5068e 4 = .ok (.ifCond .eq 12, 3) := by decide +kernel
theorem dJ0_charAt_5068e_7 : decode cJ0_charAt_5068e 7 = .ok (.aload_n 0, 1) := by decide +kernel
theorem dJ0_charAt_5068e_8 : decode cJ0_charAt_5068e 8 = .ok (.getfield 9, 3) := by decide +kernel
theorem dJ0_charAt_5068e_11 : decode cJ0_charAt_5068e 11 = .ok (.iload_n 1, 1) := by decide +kernel
theorem dJ0_charAt_5068e_12 : decode cJ0_charAt_5068e 12 = .ok (.invokestatic 495, 3) := by decide +kernel
theorem dJ0_charAt_5068e_15 : decode cJ0_charAt_5068e 15 = .ok (.ireturn, 1) := by decide +kernel
theorem dJ0_charAt_5068e_16 : decode cJ0_charAt_5068e 16 = .ok (.aload_n 0, 1) := by decide +kernel
theorem dJ0_charAt_5068e_17 : decode cJ0_charAt_5068e 17 = .ok (.getfield 9, 3) := by decide +kernel
theorem dJ0_charAt_5068e_20 : decode cJ0_charAt_5068e 20 = .ok (.iload_n 1, 1) := by decide +kernel
theorem dJ0_charAt_5068e_21 : decode cJ0_charAt_5068e 21 = .ok (.invokestatic 498, 3) := by decide +kernel
theorem dJ0_charAt_5068e_24 : decode cJ0_charAt_5068e 24 = .ok (.ireturn, 1) := by decide +kernel
theorem dJ0_coder_7d493_0 : decode cJ0_coder_7d493 0 = .ok (.getstatic 38, 3) := by decide +kernel
theorem dJ0_coder_7d493_3 : decode cJ0_coder_7d493 3 = .ok (.ifCond .eq 10, 3) := by decide +kernel
theorem dJ0_coder_7d493_6 : decode cJ0_coder_7d493 6 = .ok (.aload_n 0, 1) := by decide +kernel
theorem dJ0_coder_7d493_7 : decode cJ0_coder_7d493 7 = .ok (.getfield 15, 3) := by decide +kernel
theorem dJ0_coder_7d493_10 : decode cJ0_coder_7d493 10 = .ok (.goto 4, 3) := by decide +kernel
theorem dJ0_coder_7d493_13 : decode cJ0_coder_7d493 13 = .ok (.iconst 1, 1) := by decide +kernel
theorem dJ0_coder_7d493_14 : decode cJ0_coder_7d493 14 = .ok (.ireturn, 1) := by decide +kernel
theorem dJ0_isLatin1_aae02_0 : decode cJ0_isLatin1_aae02 0 = .ok (.getstatic 38, 3) := by decide +kernel
theorem dJ0_isLatin1_aae02_3 : decode cJ0_isLatin1_aae02 3 = .ok (.ifCond .eq 14, 3) := by decide +kernel
theorem dJ0_isLatin1_aae02_6 : decode cJ0_isLatin1_aae02 6 = .ok (.aload_n 0, 1) := by decide +kernel
theorem dJ0_isLatin1_aae02_7 : decode cJ0_isLatin1_aae02 7 = .ok (.getfield 15, 3) := by decide +kernel
theorem dJ0_isLatin1_aae02_10 : decode cJ0_isLatin1_aae02 10 = .ok (.ifCond .ne 7, 3) := by decide +kernel
theorem dJ0_isLatin1_aae02_13 : decode cJ0_isLatin1_aae02 13 = .ok (.iconst 1, 1) := by decide +kernel
theorem dJ0_isLatin1_aae02_14 : decode cJ0_isLatin1_aae02 14 = .ok (.goto 4, 3) := by decide +kernel
theorem dJ0_isLatin1_aae02_17 : decode cJ0_isLatin1_aae02 17 = .ok (.iconst 0, 1) := by decide +kernel
theorem dJ0_isLatin1_aae02_18 : decode cJ0_isLatin1_aae02 18 = .ok (.ireturn, 1) := by decide +kernel
theorem dJ0_checkIndex_df160_0 : decode cJ0_checkIndex_df160 0 = .ok (.iload_n 0, 1) := by decide +kernel
theorem dJ0_checkIndex_df160_1 : decode cJ0_checkIndex_df160 1 = .ok (.iload_n 1, 1) := by decide +kernel
theorem dJ0_checkIndex_df160_2 : decode cJ0_checkIndex_df160 2 = .ok (.getstatic 1053, 3) := by decide +kernel
theorem dJ0_checkIndex_df160_5 : decode cJ0_checkIndex_df160 5 = .ok (.invokestatic 1059, 3) := by decide +kernel
theorem dJ0_checkIndex_df160_8 : decode cJ0_checkIndex_df160 8 = .ok (.pop, 1) := by decide +kernel
theorem dJ0_checkIndex_df160_9 : decode cJ0_checkIndex_df160 9 = .ok (.return_, 1) := by decide +kernel
theorem dJ1_charAt_3b067_0 : decode cJ1_charAt_3b067 0 = .ok (.iload_n 1, 1) := by decide +kernel
theorem dJ1_charAt_3b067_1 : decode cJ1_charAt_3b067 1 = .ok (.aload_n 0, 1) := by decide +kernel
theorem dJ1_charAt_3b067_2 : decode cJ1_charAt_3b067 2 = .ok (.arraylength, 1) := by decide +kernel
theorem dJ1_charAt_3b067_3 : decode cJ1_charAt_3b067 3 = .ok (.invokestatic 9, 3) := by decide +kernel
theorem dJ1_charAt_3b067_6 : decode cJ1_charAt_3b067 6 = .ok (.aload_n 0, 1) := by decide +kernel
theorem dJ1_charAt_3b067_7 : decode cJ1_charAt_3b067 7 = .ok (.iload_n 1, 1) := by decide +kernel
theorem dJ1_charAt_3b067_8 : decode cJ1_charAt_3b067 8 = .ok (.baload, 1) := by decide +kernel
theorem dJ1_charAt_3b067_9 : decode cJ1_charAt_3b067 9 = .ok (.sipush 255, 3) := by decide +kernel
theorem dJ1_charAt_3b067_12 : decode cJ1_charAt_3b067 12 = .ok (.iand, 1) := by decide +kernel
theorem dJ1_charAt_3b067_13 : decode cJ1_charAt_3b067 13 = .ok (.i2c, 1) := by decide +kernel
theorem dJ1_charAt_3b067_14 : decode cJ1_charAt_3b067 14 = .ok (.ireturn, 1) := by decide +kernel
theorem dJ3_checkIndex_8e157_0 : decode cJ3_checkIndex_8e157 0 = .ok (.iload_n 0, 1) := by decide +kernel
theorem dJ3_checkIndex_8e157_1 : decode cJ3_checkIndex_8e157 1 = .ok (.ifCond .lt 8, 3) := by decide +kernel
theorem dJ3_checkIndex_8e157_4 : decode cJ3_checkIndex_8e157 4 = .ok (.iload_n 0, 1) := by decide +kernel
end
section
theorem dJ3_checkIndex_8e157_5 : decode cJ3_checkIndex_8e157 5 = .ok (.iload_n 1, 1) := by decide +kernel
theorem dJ3_checkIndex_8e157_6 : decode cJ3_checkIndex_8e157 6 = .ok (.if_icmp .lt 10, 3) := by decide +kernel
theorem dJ3_checkIndex_8e157_9 : decode cJ3_checkIndex_8e157 9 = .ok (.aload_n 2, 1) := by decide +kernel
theorem dJ3_checkIndex_8e157_10 : decode cJ3_checkIndex_8e157 10 = .ok (.iload_n 0, 1) := by decide +kernel
theorem dJ3_checkIndex_8e157_11 : decode cJ3_checkIndex_8e157 11 = .ok (.iload_n 1, 1) := by decide +kernel
theorem dJ3_checkIndex_8e157_12 : decode cJ3_checkIndex_8e157 12 = .ok (.invokestatic 95, 3) := by decide +kernel
theorem dJ3_checkIndex_8e157_15 : decode cJ3_checkIndex_8e157 15 = .ok (.athrow, 1) := by decide +kernel
theorem dJ3_checkIndex_8e157_16 : decode cJ3_checkIndex_8e157 16 = .ok (.iload_n 0, 1) := by decide +kernel
theorem dJ3_checkIndex_8e157_17 : decode cJ3_checkIndex_8e157 17 = .ok (.ireturn, 1) := by decide +kernel
theorem dL_law_0 : decode cL_law 0 = .ok (.new 7, 3) := by decide +kernel
theorem dL_law_3 : decode cL_law 3 = .ok (.dup, 1) := by decide +kernel
theorem dL_law_4 : decode cL_law 4 = .ok (.invokespecial 9, 3) := by decide +kernel
theorem dL_law_7 : decode cL_law 7 = .ok (.astore_n 1, 1) := by decide +kernel
theorem dL_law_8 : decode cL_law 8 = .ok (.new 10, 3) := by decide +kernel
theorem dL_law_11 : decode cL_law 11 = .ok (.dup, 1) := by decide +kernel
theorem dL_law_12 : decode cL_law 12 = .ok (.invokespecial 12, 3) := by decide +kernel
theorem dL_law_15 : decode cL_law 15 = .ok (.astore_n 2, 1) := by decide +kernel
theorem dL_law_16 : decode cL_law 16 = .ok (.iconst 0, 1) := by decide +kernel
theorem dL_law_17 : decode cL_law 17 = .ok (.istore_n 3, 1) := by decide +kernel
theorem dL_law_18 : decode cL_law 18 = .ok (.iload_n 3, 1) := by decide +kernel
theorem dL_law_19 : decode cL_law 19 = .ok (.aload_n 0, 1) := by decide +kernel
theorem dL_law_20 : decode cL_law 20 = .ok (.arraylength, 1) := by decide +kernel
theorem dL_law_21 : decode cL_law 21 = .ok (.bipush 6, 2) := by decide +kernel
theorem dL_law_23 : decode cL_law 23 = .ok (.isub, 1) := by decide +kernel
theorem dL_law_24 : decode cL_law 24 = .ok (.if_icmp .gt 1057, 3) := by decide +kernel
theorem dL_law_27 : decode cL_law 27 = .ok (.aload_n 0, 1) := by decide +kernel
theorem dL_law_28 : decode cL_law 28 = .ok (.iload_n 3, 1) := by decide +kernel
theorem dL_law_29 : decode cL_law 29 = .ok (.iaload, 1) := by decide +kernel
theorem dL_law_30 : decode cL_law 30 = .ok (.bipush 31, 2) := by decide +kernel
theorem dL_law_32 : decode cL_law 32 = .ok (.iand, 1) := by decide +kernel
theorem dL_law_33 : decode cL_law 33 = .ok (.tableswitch 1042 0 30 #[139, 182, 225, 288, 311, 374, 387, 400, 433, 456, 489, 512, 545, 568, 581, 614, 637, 660, 693, 726, 769, 802, 825, 848, 871, 894, 917, 950, 983, 1006, 1029], 139) := by decide +kernel
theorem dL_law_172 : decode cL_law 172 = .ok (.aload_n 1, 1) := by decide +kernel
theorem dL_law_173 : decode cL_law 173 = .ok (.aload_n 0, 1) := by decide +kernel
theorem dL_law_174 : decode cL_law 174 = .ok (.iload_n 3, 1) := by decide +kernel
theorem dL_law_175 : decode cL_law 175 = .ok (.iconst 1, 1) := by decide +kernel
theorem dL_law_176 : decode cL_law 176 = .ok (.iadd, 1) := by decide +kernel
theorem dL_law_177 : decode cL_law 177 = .ok (.iaload, 1) := by decide +kernel
theorem dL_law_178 : decode cL_law 178 = .ok (.aload_n 0, 1) := by decide +kernel
theorem dL_law_179 : decode cL_law 179 = .ok (.iload_n 3, 1) := by decide +kernel
theorem dL_law_180 : decode cL_law 180 = .ok (.iconst 2, 1) := by decide +kernel
theorem dL_law_181 : decode cL_law 181 = .ok (.iadd, 1) := by decide +kernel
theorem dL_law_182 : decode cL_law 182 = .ok (.iaload, 1) := by decide +kernel
theorem dL_law_183 : decode cL_law 183 = .ok (.aload_n 0, 1) := by decide +kernel
theorem dL_law_184 : decode cL_law 184 = .ok (.iload_n 3, 1) := by decide +kernel
theorem dL_law_185 : decode cL_law 185 = .ok (.iconst 3, 1) := by decide +kernel
theorem dL_law_186 : decode cL_law 186 = .ok (.iadd, 1) := by decide +kernel
theorem dL_law_187 : decode cL_law 187 = .ok (.iaload, 1) := by decide +kernel
theorem dL_law_188 : decode cL_law 188 = .ok (.invokevirtual 13, 3) := by decide +kernel
theorem dL_law_191 : decode cL_law 191 = .ok (.aload_n 2, 1) := by decide +kernel
theorem dL_law_192 : decode cL_law 192 = .ok (.aload_n 0, 1) := by decide +kernel
theorem dL_law_193 : decode cL_law 193 = .ok (.iload_n 3, 1) := by decide +kernel
theorem dL_law_194 : decode cL_law 194 = .ok (.iconst 1, 1) := by decide +kernel
theorem dL_law_195 : decode cL_law 195 = .ok (.iadd, 1) := by decide +kernel
theorem dL_law_196 : decode cL_law 196 = .ok (.iaload, 1) := by decide +kernel
theorem dL_law_197 : decode cL_law 197 = .ok (.aload_n 0, 1) := by decide +kernel
theorem dL_law_198 : decode cL_law 198 = .ok (.iload_n 3, 1) := by decide +kernel
theorem dL_law_199 : decode cL_law 199 = .ok (.iconst 2, 1) := by decide +kernel
theorem dL_law_200 : decode cL_law 200 = .ok (.iadd, 1) := by decide +kernel
theorem dL_law_201 : decode cL_law 201 = .ok (.iaload, 1) := by decide +kernel
theorem dL_law_202 : decode cL_law 202 = .ok (.aload_n 0, 1) := by decide +kernel
theorem dL_law_203 : decode cL_law 203 = .ok (.iload_n 3, 1) := by decide +kernel
theorem dL_law_204 : decode cL_law 204 = .ok (.iconst 3, 1) := by decide +kernel
theorem dL_law_205 : decode cL_law 205 = .ok (.iadd, 1) := by decide +kernel
theorem dL_law_206 : decode cL_law 206 = .ok (.iaload, 1) := by decide +kernel
theorem dL_law_207 : decode cL_law 207 = .ok (.invokevirtual 17, 3) := by decide +kernel
theorem dL_law_210 : decode cL_law 210 = .ok (.if_icmp .eq 865, 3) := by decide +kernel
theorem dL_law_213 : decode cL_law 213 = .ok (.iconst 0, 1) := by decide +kernel
theorem dL_law_214 : decode cL_law 214 = .ok (.ireturn, 1) := by decide +kernel
theorem dL_law_215 : decode cL_law 215 = .ok (.aload_n 1, 1) := by decide +kernel
theorem dL_law_216 : decode cL_law 216 = .ok (.aload_n 0, 1) := by decide +kernel
theorem dL_law_217 : decode cL_law 217 = .ok (.iload_n 3, 1) := by decide +kernel
theorem dL_law_218 : decode cL_law 218 = .ok (.iconst 1, 1) := by decide +kernel
theorem dL_law_219 : decode cL_law 219 = .ok (.iadd, 1) := by decide +kernel
theorem dL_law_220 : decode cL_law 220 = .ok (.iaload, 1) := by decide +kernel
theorem dL_law_221 : decode cL_law 221 = .ok (.aload_n 0, 1) := by decide +kernel
theorem dL_law_222 : decode cL_law 222 = .ok (.iload_n 3, 1) := by decide +kernel
theorem dL_law_223 : decode cL_law 223 = .ok (.iconst 2, 1) := by decide +kernel
theorem dL_law_224 : decode cL_law 224 = .ok (.iadd, 1) := by decide +kernel
theorem dL_law_225 : decode cL_law 225 = .ok (.iaload, 1) := by decide +kernel
theorem dL_law_226 : decode cL_law 226 = .ok (.aload_n 0, 1) := by decide +kernel
theorem dL_law_227 : decode cL_law 227 = .ok (.iload_n 3, 1) := by decide +kernel
theorem dL_law_228 : decode cL_law 228 = .ok (.iconst 3, 1) := by decide +kernel
theorem dL_law_229 : decode cL_law 229 = .ok (.iadd, 1) := by decide +kernel
theorem dL_law_230 : decode cL_law 230 = .ok (.iaload, 1) := by decide +kernel
theorem dL_law_231 : decode cL_law 231 = .ok (.invokevirtual 18, 3) := by decide +kernel
theorem dL_law_234 : decode cL_law 234 = .ok (.aload_n 2, 1) := by decide +kernel
theorem dL_law_235 : decode cL_law 235 = .ok (.aload_n 0, 1) := by decide +kernel
theorem dL_law_236 : decode cL_law 236 = .ok (.iload_n 3, 1) := by decide +kernel
theorem dL_law_237 : decode cL_law 237 = .ok (.iconst 1, 1) := by decide +kernel
theorem dL_law_238 : decode cL_law 238 = .ok (.iadd, 1) := by decide +kernel
theorem dL_law_239 : decode cL_law 239 = .ok (.iaload, 1) := by decide +kernel
theorem dL_law_240 : decode cL_law 240 = .ok (.aload_n 0, 1) := by decide +kernel
theorem dL_law_241 : decode cL_law 241 = .ok (.iload_n 3, 1) := by decide +kernel
theorem dL_law_242 : decode cL_law 242 = .ok (.iconst 2, 1) := by decide +kernel
theorem dL_law_243 : decode cL_law 243 = .ok (.iadd, 1) := by decide +kernel
theorem dL_law_244 : decode cL_law 244 = .ok (.iaload, 1) := by decide +kernel
theorem dL_law_245 : decode cL_law 245 = .ok (.aload_n 0, 1) := by decide +kernel
theorem dL_law_246 : decode cL_law 246 = .ok (.iload_n 3, 1) := by decide +kernel
theorem dL_law_247 : decode cL_law 247 = .ok (.iconst 3, 1) := by decide +kernel
theorem dL_law_248 : decode cL_law 248 = .ok (.iadd, 1) := by decide +kernel
theorem dL_law_249 : decode cL_law 249 = .ok (.iaload, 1) := by decide +kernel
theorem dL_law_250 : decode cL_law 250 = .ok (.invokevirtual 21, 3) := by decide +kernel
theorem dL_law_253 : decode cL_law 253 = .ok (.if_icmp .eq 822, 3) := by decide +kernel
theorem dL_law_256 : decode cL_law 256 = .ok (.iconst 0, 1) := by decide +kernel
theorem dL_law_257 : decode cL_law 257 = .ok (.ireturn, 1) := by decide +kernel
theorem dL_law_258 : decode cL_law 258 = .ok (.aload_n 1, 1) := by decide +kernel
theorem dL_law_259 : decode cL_law 259 = .ok (.aload_n 0, 1) := by decide +kernel
theorem dL_law_260 : decode cL_law 260 = .ok (.iload_n 3, 1) := by decide +kernel
theorem dL_law_261 : decode cL_law 261 = .ok (.iconst 1, 1) := by decide +kernel
theorem dL_law_262 : decode cL_law 262 = .ok (.iadd, 1) := by decide +kernel
theorem dL_law_263 : decode cL_law 263 = .ok (.iaload, 1) := by decide +kernel
theorem dL_law_264 : decode cL_law 264 = .ok (.aload_n 0, 1) := by decide +kernel
theorem dL_law_265 : decode cL_law 265 = .ok (.iload_n 3, 1) := by decide +kernel
theorem dL_law_266 : decode cL_law 266 = .ok (.iconst 2, 1) := by decide +kernel
theorem dL_law_267 : decode cL_law 267 = .ok (.iadd, 1) := by decide +kernel
theorem dL_law_268 : decode cL_law 268 = .ok (.iaload, 1) := by decide +kernel
theorem dL_law_269 : decode cL_law 269 = .ok (.aload_n 0, 1) := by decide +kernel
theorem dL_law_270 : decode cL_law 270 = .ok (.iload_n 3, 1) := by decide +kernel
theorem dL_law_271 : decode cL_law 271 = .ok (.iconst 3, 1) := by decide +kernel
theorem dL_law_272 : decode cL_law 272 = .ok (.iadd, 1) := by decide +kernel
theorem dL_law_273 : decode cL_law 273 = .ok (.iaload, 1) := by decide +kernel
theorem dL_law_274 : decode cL_law 274 = .ok (.aload_n 0, 1) := by decide +kernel
theorem dL_law_275 : decode cL_law 275 = .ok (.iload_n 3, 1) := by decide +kernel
theorem dL_law_276 : decode cL_law 276 = .ok (.iconst 4, 1) := by decide +kernel
theorem dL_law_277 : decode cL_law 277 = .ok (.iadd, 1) := by decide +kernel
theorem dL_law_278 : decode cL_law 278 = .ok (.iaload, 1) := by decide +kernel
theorem dL_law_279 : decode cL_law 279 = .ok (.aload_n 0, 1) := by decide +kernel
theorem dL_law_280 : decode cL_law 280 = .ok (.iload_n 3, 1) := by decide +kernel
theorem dL_law_281 : decode cL_law 281 = .ok (.iconst 5, 1) := by decide +kernel
theorem dL_law_282 : decode cL_law 282 = .ok (.iadd, 1) := by decide +kernel
theorem dL_law_283 : decode cL_law 283 = .ok (.iaload, 1) := by decide +kernel
theorem dL_law_284 : decode cL_law 284 = .ok (.invokevirtual 22, 3) := by decide +kernel
theorem dL_law_287 : decode cL_law 287 = .ok (.aload_n 2, 1) := by decide +kernel
theorem dL_law_288 : decode cL_law 288 = .ok (.aload_n 0, 1) := by decide +kernel
theorem dL_law_289 : decode cL_law 289 = .ok (.iload_n 3, 1) := by decide +kernel
theorem dL_law_290 : decode cL_law 290 = .ok (.iconst 1, 1) := by decide +kernel
theorem dL_law_291 : decode cL_law 291 = .ok (.iadd, 1) := by decide +kernel
theorem dL_law_292 : decode cL_law 292 = .ok (.iaload, 1) := by decide +kernel
theorem dL_law_293 : decode cL_law 293 = .ok (.aload_n 0, 1) := by decide +kernel
theorem dL_law_294 : decode cL_law 294 = .ok (.iload_n 3, 1) := by decide +kernel
theorem dL_law_295 : decode cL_law 295 = .ok (.iconst 2, 1) := by decide +kernel
theorem dL_law_296 : decode cL_law 296 = .ok (.iadd, 1) := by decide +kernel
theorem dL_law_297 : decode cL_law 297 = .ok (.iaload, 1) := by decide +kernel
theorem dL_law_298 : decode cL_law 298 = .ok (.aload_n 0, 1) := by decide +kernel
theorem dL_law_299 : decode cL_law 299 = .ok (.iload_n 3, 1) := by decide +kernel
theorem dL_law_300 : decode cL_law 300 = .ok (.iconst 3, 1) := by decide +kernel
theorem dL_law_301 : decode cL_law 301 = .ok (.iadd, 1) := by decide +kernel
theorem dL_law_302 : decode cL_law 302 = .ok (.iaload, 1) := by decide +kernel
theorem dL_law_303 : decode cL_law 303 = .ok (.aload_n 0, 1) := by decide +kernel
theorem dL_law_304 : decode cL_law 304 = .ok (.iload_n 3, 1) := by decide +kernel
theorem dL_law_305 : decode cL_law 305 = .ok (.iconst 4, 1) := by decide +kernel
theorem dL_law_306 : decode cL_law 306 = .ok (.iadd, 1) := by decide +kernel
theorem dL_law_307 : decode cL_law 307 = .ok (.iaload, 1) := by decide +kernel
theorem dL_law_308 : decode cL_law 308 = .ok (.aload_n 0, 1) := by decide +kernel
theorem dL_law_309 : decode cL_law 309 = .ok (.iload_n 3, 1) := by decide +kernel
theorem dL_law_310 : decode cL_law 310 = .ok (.iconst 5, 1) := by decide +kernel
theorem dL_law_311 : decode cL_law 311 = .ok (.iadd, 1) := by decide +kernel
theorem dL_law_312 : decode cL_law 312 = .ok (.iaload, 1) := by decide +kernel
theorem dL_law_313 : decode cL_law 313 = .ok (.invokevirtual 26, 3) := by decide +kernel
theorem dL_law_316 : decode cL_law 316 = .ok (.if_icmp .eq 759, 3) := by decide +kernel
theorem dL_law_319 : decode cL_law 319 = .ok (.iconst 0, 1) := by decide +kernel
theorem dL_law_320 : decode cL_law 320 = .ok (.ireturn, 1) := by decide +kernel
theorem dL_law_321 : decode cL_law 321 = .ok (.aload_n 1, 1) := by decide +kernel
theorem dL_law_322 : decode cL_law 322 = .ok (.aload_n 0, 1) := by decide +kernel
theorem dL_law_323 : decode cL_law 323 = .ok (.iload_n 3, 1) := by decide +kernel
theorem dL_law_324 : decode cL_law 324 = .ok (.iconst 1, 1) := by decide +kernel
theorem dL_law_325 : decode cL_law 325 = .ok (.iadd, 1) := by decide +kernel
theorem dL_law_326 : decode cL_law 326 = .ok (.iaload, 1) := by decide +kernel
theorem dL_law_327 : decode cL_law 327 = .ok (.invokevirtual 27, 3) := by decide +kernel
theorem dL_law_330 : decode cL_law 330 = .ok (.aload_n 2, 1) := by decide +kernel
theorem dL_law_331 : decode cL_law 331 = .ok (.aload_n 0, 1) := by decide +kernel
theorem dL_law_332 : decode cL_law 332 = .ok (.iload_n 3, 1) := by decide +kernel
theorem dL_law_333 : decode cL_law 333 = .ok (.iconst 1, 1) := by decide +kernel
theorem dL_law_334 : decode cL_law 334 = .ok (.iadd, 1) := by decide +kernel
theorem dL_law_335 : decode cL_law 335 = .ok (.iaload, 1) := by decide +kernel
theorem dL_law_336 : decode cL_law 336 = .ok (.invokevirtual 31, 3) := by decide +kernel
theorem dL_law_339 : decode cL_law 339 = .ok (.if_icmp .eq 736, 3) := by decide +kernel
theorem dL_law_342 : decode cL_law 342 = .ok (.iconst 0, 1) := by decide +kernel
theorem dL_law_343 : decode cL_law 343 = .ok (.ireturn, 1) := by decide +kernel
theorem dL_law_344 : decode cL_law 344 = .ok (.aload_n 1, 1) := by decide +kernel
theorem dL_law_345 : decode cL_law 345 = .ok (.aload_n 0, 1) := by decide +kernel
theorem dL_law_346 : decode cL_law 346 = .ok (.iload_n 3, 1) := by decide +kernel
theorem dL_law_347 : decode cL_law 347 = .ok (.iconst 1, 1) := by decide +kernel
theorem dL_law_348 : decode cL_law 348 = .ok (.iadd, 1) := by decide +kernel
theorem dL_law_349 : decode cL_law 349 = .ok (.iaload, 1) := by decide +kernel
theorem dL_law_350 : decode cL_law 350 = .ok (.i2l, 1) := by decide +kernel
theorem dL_law_351 : decode cL_law 351 = .ok (.bipush 32, 2) := by decide +kernel
theorem dL_law_353 : decode cL_law 353 = .ok (.lshl, 1) := by decide +kernel
theorem dL_law_354 : decode cL_law 354 = .ok (.aload_n 0, 1) := by decide +kernel
theorem dL_law_355 : decode cL_law 355 = .ok (.iload_n 3, 1) := by decide +kernel
theorem dL_law_356 : decode cL_law 356 = .ok (.iconst 2, 1) := by decide +kernel
theorem dL_law_357 : decode cL_law 357 = .ok (.iadd, 1) := by decide +kernel
theorem dL_law_358 : decode cL_law 358 = .ok (.iaload, 1) := by decide +kernel
theorem dL_law_359 : decode cL_law 359 = .ok (.i2l, 1) := by decide +kernel
theorem dL_law_360 : decode cL_law 360 = .ok (.ldc2_w 32, 3) := by decide +kernel
theorem dL_law_363 : decode cL_law 363 = .ok (.land, 1) := by decide +kernel
theorem dL_law_364 : decode cL_law 364 = .ok (.lor, 1) := by decide +kernel
theorem dL_law_365 : decode cL_law 365 = .ok (.aload_n 0, 1) := by decide +kernel
theorem dL_law_366 : decode cL_law 366 = .ok (.iload_n 3, 1) := by decide +kernel
theorem dL_law_367 : decode cL_law 367 = .ok (.iconst 3, 1) := by decide +kernel
theorem dL_law_368 : decode cL_law 368 = .ok (.iadd, 1) := by decide +kernel
theorem dL_law_369 : decode cL_law 369 = .ok (.iaload, 1) := by decide +kernel
theorem dL_law_370 : decode cL_law 370 = .ok (.invokevirtual 34, 3) := by decide +kernel
theorem dL_law_373 : decode cL_law 373 = .ok (.aload_n 2, 1) := by decide +kernel
theorem dL_law_374 : decode cL_law 374 = .ok (.aload_n 0, 1) := by decide +kernel
theorem dL_law_375 : decode cL_law 375 = .ok (.iload_n 3, 1) := by decide +kernel
theorem dL_law_376 : decode cL_law 376 = .ok (.iconst 1, 1) := by decide +kernel
theorem dL_law_377 : decode cL_law 377 = .ok (.iadd, 1) := by decide +kernel
theorem dL_law_378 : decode cL_law 378 = .ok (.iaload, 1) := by decide +kernel
theorem dL_law_379 : decode cL_law 379 = .ok (.i2l, 1) := by decide +kernel
theorem dL_law_380 : decode cL_law 380 = .ok (.bipush 32, 2) := by decide +kernel
theorem dL_law_382 : decode cL_law 382 = .ok (.lshl, 1) := by decide +kernel
theorem dL_law_383 : decode cL_law 383 = .ok (.aload_n 0, 1) := by decide +kernel
theorem dL_law_384 : decode cL_law 384 = .ok (.iload_n 3, 1) := by decide +kernel
theorem dL_law_385 : decode cL_law 385 = .ok (.iconst 2, 1) := by decide +kernel
theorem dL_law_386 : decode cL_law 386 = .ok (.iadd, 1) := by decide +kernel
theorem dL_law_387 : decode cL_law 387 = .ok (.iaload, 1) := by decide +kernel
theorem dL_law_388 : decode cL_law 388 = .ok (.i2l, 1) := by decide +kernel
theorem dL_law_389 : decode cL_law 389 = .ok (.ldc2_w 32, 3) := by decide +kernel
theorem dL_law_392 : decode cL_law 392 = .ok (.land, 1) := by decide +kernel
theorem dL_law_393 : decode cL_law 393 = .ok (.lor, 1) := by decide +kernel
theorem dL_law_394 : decode cL_law 394 = .ok (.aload_n 0, 1) := by decide +kernel
theorem dL_law_395 : decode cL_law 395 = .ok (.iload_n 3, 1) := by decide +kernel
theorem dL_law_396 : decode cL_law 396 = .ok (.iconst 3, 1) := by decide +kernel
theorem dL_law_397 : decode cL_law 397 = .ok (.iadd, 1) := by decide +kernel
theorem dL_law_398 : decode cL_law 398 = .ok (.iaload, 1) := by decide +kernel
theorem dL_law_399 : decode cL_law 399 = .ok (.invokevirtual 38, 3) := by decide +kernel
theorem dL_law_402 : decode cL_law 402 = .ok (.if_icmp .eq 673, 3) := by decide +kernel
theorem dL_law_405 : decode cL_law 405 = .ok (.iconst 0, 1) := by decide +kernel
theorem dL_law_406 : decode cL_law 406 = .ok (.ireturn, 1) := by decide +kernel
theorem dL_law_407 : decode cL_law 407 = .ok (.aload_n 1, 1) := by decide +kernel
theorem dL_law_408 : decode cL_law 408 = .ok (.invokevirtual 39, 3) := by decide +kernel
theorem dL_law_411 : decode cL_law 411 = .ok (.aload_n 2, 1) := by decide +kernel
theorem dL_law_412 : decode cL_law 412 = .ok (.invokevirtual 43, 3) := by decide +kernel
theorem dL_law_415 : decode cL_law 415 = .ok (.if_icmp .eq 660, 3) := by decide +kernel
theorem dL_law_418 : decode cL_law 418 = .ok (.iconst 0, 1) := by decide +kernel
theorem dL_law_419 : decode cL_law 419 = .ok (.ireturn, 1) := by decide +kernel
theorem dL_law_420 : decode cL_law 420 = .ok (.aload_n 1, 1) := by decide +kernel
theorem dL_law_421 : decode cL_law 421 = .ok (.invokevirtual 44, 3) := by decide +kernel
theorem dL_law_424 : decode cL_law 424 = .ok (.aload_n 2, 1) := by decide +kernel
theorem dL_law_425 : decode cL_law 425 = .ok (.invokevirtual 47, 3) := by decide +kernel
theorem dL_law_428 : decode cL_law 428 = .ok (.if_icmp .eq 647, 3) := by decide +kernel
theorem dL_law_431 : decode cL_law 431 = .ok (.iconst 0, 1) := by decide +kernel
theorem dL_law_432 : decode cL_law 432 = .ok (.ireturn, 1) := by decide +kernel
theorem dL_law_433 : decode cL_law 433 = .ok (.aload_n 1, 1) := by decide +kernel
theorem dL_law_434 : decode cL_law 434 = .ok (.aload_n 0, 1) := by decide +kernel
theorem dL_law_435 : decode cL_law 435 = .ok (.iload_n 3, 1) := by decide +kernel
theorem dL_law_436 : decode cL_law 436 = .ok (.iconst 1, 1) := by decide +kernel
theorem dL_law_437 : decode cL_law 437 = .ok (.iadd, 1) := by decide +kernel
theorem dL_law_438 : decode cL_law 438 = .ok (.iaload, 1) := by decide +kernel
theorem dL_law_439 : decode cL_law 439 = .ok (.aload_n 0, 1) := by decide +kernel
theorem dL_law_440 : decode cL_law 440 = .ok (.iload_n 3, 1) := by decide +kernel
theorem dL_law_441 : decode cL_law 441 = .ok (.iconst 2, 1) := by decide +kernel
theorem dL_law_442 : decode cL_law 442 = .ok (.iadd, 1) := by decide +kernel
theorem dL_law_443 : decode cL_law 443 = .ok (.iaload, 1) := by decide +kernel
theorem dL_law_444 : decode cL_law 444 = .ok (.invokevirtual 48, 3) := by decide +kernel
theorem dL_law_447 : decode cL_law 447 = .ok (.aload_n 2, 1) := by decide +kernel
theorem dL_law_448 : decode cL_law 448 = .ok (.aload_n 0, 1) := by decide +kernel
theorem dL_law_449 : decode cL_law 449 = .ok (.iload_n 3, 1) := by decide +kernel
theorem dL_law_450 : decode cL_law 450 = .ok (.iconst 1, 1) := by decide +kernel
theorem dL_law_451 : decode cL_law 451 = .ok (.iadd, 1) := by decide +kernel
theorem dL_law_452 : decode cL_law 452 = .ok (.iaload, 1) := by decide +kernel
theorem dL_law_453 : decode cL_law 453 = .ok (.aload_n 0, 1) := by decide +kernel
theorem dL_law_454 : decode cL_law 454 = .ok (.iload_n 3, 1) := by decide +kernel
theorem dL_law_455 : decode cL_law 455 = .ok (.iconst 2, 1) := by decide +kernel
theorem dL_law_456 : decode cL_law 456 = .ok (.iadd, 1) := by decide +kernel
theorem dL_law_457 : decode cL_law 457 = .ok (.iaload, 1) := by decide +kernel
theorem dL_law_458 : decode cL_law 458 = .ok (.invokevirtual 52, 3) := by decide +kernel
theorem dL_law_461 : decode cL_law 461 = .ok (.if_icmp .eq 614, 3) := by decide +kernel
theorem dL_law_464 : decode cL_law 464 = .ok (.iconst 0, 1) := by decide +kernel
theorem dL_law_465 : decode cL_law 465 = .ok (.ireturn, 1) := by decide +kernel
theorem dL_law_466 : decode cL_law 466 = .ok (.aload_n 1, 1) := by decide +kernel
theorem dL_law_467 : decode cL_law 467 = .ok (.aload_n 0, 1) := by decide +kernel
theorem dL_law_468 : decode cL_law 468 = .ok (.iload_n 3, 1) := by decide +kernel
theorem dL_law_469 : decode cL_law 469 = .ok (.iconst 1, 1) := by decide +kernel
theorem dL_law_470 : decode cL_law 470 = .ok (.iadd, 1) := by decide +kernel
theorem dL_law_471 : decode cL_law 471 = .ok (.iaload, 1) := by decide +kernel
theorem dL_law_472 : decode cL_law 472 = .ok (.invokevirtual 53, 3) := by decide +kernel
theorem dL_law_475 : decode cL_law 475 = .ok (.aload_n 2, 1) := by decide +kernel
theorem dL_law_476 : decode cL_law 476 = .ok (.aload_n 0, 1) := by decide +kernel
theorem dL_law_477 : decode cL_law 477 = .ok (.iload_n 3, 1) := by decide +kernel
theorem dL_law_478 : decode cL_law 478 = .ok (.iconst 1, 1) := by decide +kernel
theorem dL_law_479 : decode cL_law 479 = .ok (.iadd, 1) := by decide +kernel
theorem dL_law_480 : decode cL_law 480 = .ok (.iaload, 1) := by decide +kernel
theorem dL_law_481 : decode cL_law 481 = .ok (.invokevirtual 56, 3) := by decide +kernel
theorem dL_law_484 : decode cL_law 484 = .ok (.if_icmp .eq 591, 3) := by decide +kernel
theorem dL_law_487 : decode cL_law 487 = .ok (.iconst 0, 1) := by decide +kernel
theorem dL_law_488 : decode cL_law 488 = .ok (.ireturn, 1) := by decide +kernel
theorem dL_law_489 : decode cL_law 489 = .ok (.aload_n 1, 1) := by decide +kernel
theorem dL_law_490 : decode cL_law 490 = .ok (.aload_n 0, 1) := by decide +kernel
theorem dL_law_491 : decode cL_law 491 = .ok (.iload_n 3, 1) := by decide +kernel
theorem dL_law_492 : decode cL_law 492 = .ok (.iconst 1, 1) := by decide +kernel
theorem dL_law_493 : decode cL_law 493 = .ok (.iadd, 1) := by decide +kernel
theorem dL_law_494 : decode cL_law 494 = .ok (.iaload, 1) := by decide +kernel
theorem dL_law_495 : decode cL_law 495 = .ok (.aload_n 0, 1) := by decide +kernel
theorem dL_law_496 : decode cL_law 496 = .ok (.iload_n 3, 1) := by decide +kernel
theorem dL_law_497 : decode cL_law 497 = .ok (.iconst 2, 1) := by decide +kernel
theorem dL_law_498 : decode cL_law 498 = .ok (.iadd, 1) := by decide +kernel
theorem dL_law_499 : decode cL_law 499 = .ok (.iaload, 1) := by decide +kernel
theorem dL_law_500 : decode cL_law 500 = .ok (.invokevirtual 57, 3) := by decide +kernel
theorem dL_law_503 : decode cL_law 503 = .ok (.aload_n 2, 1) := by decide +kernel
theorem dL_law_504 : decode cL_law 504 = .ok (.aload_n 0, 1) := by decide +kernel
theorem dL_law_505 : decode cL_law 505 = .ok (.iload_n 3, 1) := by decide +kernel
theorem dL_law_506 : decode cL_law 506 = .ok (.iconst 1, 1) := by decide +kernel
theorem dL_law_507 : decode cL_law 507 = .ok (.iadd, 1) := by decide +kernel
theorem dL_law_508 : decode cL_law 508 = .ok (.iaload, 1) := by decide +kernel
theorem dL_law_509 : decode cL_law 509 = .ok (.aload_n 0, 1) := by decide +kernel
theorem dL_law_510 : decode cL_law 510 = .ok (.iload_n 3, 1) := by decide +kernel
theorem dL_law_511 : decode cL_law 511 = .ok (.iconst 2, 1) := by decide +kernel
theorem dL_law_512 : decode cL_law 512 = .ok (.iadd, 1) := by decide +kernel
theorem dL_law_513 : decode cL_law 513 = .ok (.iaload, 1) := by decide +kernel
theorem dL_law_514 : decode cL_law 514 = .ok (.invokevirtual 60, 3) := by decide +kernel
theorem dL_law_517 : decode cL_law 517 = .ok (.if_icmp .eq 558, 3) := by decide +kernel
theorem dL_law_520 : decode cL_law 520 = .ok (.iconst 0, 1) := by decide +kernel
theorem dL_law_521 : decode cL_law 521 = .ok (.ireturn, 1) := by decide +kernel
theorem dL_law_522 : decode cL_law 522 = .ok (.aload_n 1, 1) := by decide +kernel
theorem dL_law_523 : decode cL_law 523 = .ok (.aload_n 0, 1) := by decide +kernel
theorem dL_law_524 : decode cL_law 524 = .ok (.iload_n 3, 1) := by decide +kernel
theorem dL_law_525 : decode cL_law 525 = .ok (.iconst 1, 1) := by decide +kernel
theorem dL_law_526 : decode cL_law 526 = .ok (.iadd, 1) := by decide +kernel
theorem dL_law_527 : decode cL_law 527 = .ok (.iaload, 1) := by decide +kernel
theorem dL_law_528 : decode cL_law 528 = .ok (.invokevirtual 61, 3) := by decide +kernel
theorem dL_law_531 : decode cL_law 531 = .ok (.aload_n 2, 1) := by decide +kernel
theorem dL_law_532 : decode cL_law 532 = .ok (.aload_n 0, 1) := by decide +kernel
theorem dL_law_533 : decode cL_law 533 = .ok (.iload_n 3, 1) := by decide +kernel
theorem dL_law_534 : decode cL_law 534 = .ok (.iconst 1, 1) := by decide +kernel
theorem dL_law_535 : decode cL_law 535 = .ok (.iadd, 1) := by decide +kernel
theorem dL_law_536 : decode cL_law 536 = .ok (.iaload, 1) := by decide +kernel
theorem dL_law_537 : decode cL_law 537 = .ok (.invokevirtual 64, 3) := by decide +kernel
theorem dL_law_540 : decode cL_law 540 = .ok (.if_icmp .eq 535, 3) := by decide +kernel
theorem dL_law_543 : decode cL_law 543 = .ok (.iconst 0, 1) := by decide +kernel
theorem dL_law_544 : decode cL_law 544 = .ok (.ireturn, 1) := by decide +kernel
theorem dL_law_545 : decode cL_law 545 = .ok (.aload_n 1, 1) := by decide +kernel
theorem dL_law_546 : decode cL_law 546 = .ok (.aload_n 0, 1) := by decide +kernel
theorem dL_law_547 : decode cL_law 547 = .ok (.iload_n 3, 1) := by decide +kernel
theorem dL_law_548 : decode cL_law 548 = .ok (.iconst 1, 1) := by decide +kernel
theorem dL_law_549 : decode cL_law 549 = .ok (.iadd, 1) := by decide +kernel
theorem dL_law_550 : decode cL_law 550 = .ok (.iaload, 1) := by decide +kernel
theorem dL_law_551 : decode cL_law 551 = .ok (.aload_n 0, 1) := by decide +kernel
theorem dL_law_552 : decode cL_law 552 = .ok (.iload_n 3, 1) := by decide +kernel
theorem dL_law_553 : decode cL_law 553 = .ok (.iconst 2, 1) := by decide +kernel
theorem dL_law_554 : decode cL_law 554 = .ok (.iadd, 1) := by decide +kernel
theorem dL_law_555 : decode cL_law 555 = .ok (.iaload, 1) := by decide +kernel
theorem dL_law_556 : decode cL_law 556 = .ok (.invokevirtual 65, 3) := by decide +kernel
theorem dL_law_559 : decode cL_law 559 = .ok (.aload_n 2, 1) := by decide +kernel
theorem dL_law_560 : decode cL_law 560 = .ok (.aload_n 0, 1) := by decide +kernel
theorem dL_law_561 : decode cL_law 561 = .ok (.iload_n 3, 1) := by decide +kernel
theorem dL_law_562 : decode cL_law 562 = .ok (.iconst 1, 1) := by decide +kernel
theorem dL_law_563 : decode cL_law 563 = .ok (.iadd, 1) := by decide +kernel
theorem dL_law_564 : decode cL_law 564 = .ok (.iaload, 1) := by decide +kernel
theorem dL_law_565 : decode cL_law 565 = .ok (.aload_n 0, 1) := by decide +kernel
theorem dL_law_566 : decode cL_law 566 = .ok (.iload_n 3, 1) := by decide +kernel
theorem dL_law_567 : decode cL_law 567 = .ok (.iconst 2, 1) := by decide +kernel
theorem dL_law_568 : decode cL_law 568 = .ok (.iadd, 1) := by decide +kernel
theorem dL_law_569 : decode cL_law 569 = .ok (.iaload, 1) := by decide +kernel
theorem dL_law_570 : decode cL_law 570 = .ok (.invokevirtual 68, 3) := by decide +kernel
theorem dL_law_573 : decode cL_law 573 = .ok (.if_icmp .eq 502, 3) := by decide +kernel
theorem dL_law_576 : decode cL_law 576 = .ok (.iconst 0, 1) := by decide +kernel
theorem dL_law_577 : decode cL_law 577 = .ok (.ireturn, 1) := by decide +kernel
theorem dL_law_578 : decode cL_law 578 = .ok (.aload_n 1, 1) := by decide +kernel
theorem dL_law_579 : decode cL_law 579 = .ok (.aload_n 0, 1) := by decide +kernel
theorem dL_law_580 : decode cL_law 580 = .ok (.iload_n 3, 1) := by decide +kernel
theorem dL_law_581 : decode cL_law 581 = .ok (.iconst 1, 1) := by decide +kernel
theorem dL_law_582 : decode cL_law 582 = .ok (.iadd, 1) := by decide +kernel
theorem dL_law_583 : decode cL_law 583 = .ok (.iaload, 1) := by decide +kernel
theorem dL_law_584 : decode cL_law 584 = .ok (.invokevirtual 69, 3) := by decide +kernel
theorem dL_law_587 : decode cL_law 587 = .ok (.aload_n 2, 1) := by decide +kernel
theorem dL_law_588 : decode cL_law 588 = .ok (.aload_n 0, 1) := by decide +kernel
theorem dL_law_589 : decode cL_law 589 = .ok (.iload_n 3, 1) := by decide +kernel
theorem dL_law_590 : decode cL_law 590 = .ok (.iconst 1, 1) := by decide +kernel
theorem dL_law_591 : decode cL_law 591 = .ok (.iadd, 1) := by decide +kernel
theorem dL_law_592 : decode cL_law 592 = .ok (.iaload, 1) := by decide +kernel
theorem dL_law_593 : decode cL_law 593 = .ok (.invokevirtual 72, 3) := by decide +kernel
theorem dL_law_596 : decode cL_law 596 = .ok (.if_icmp .eq 479, 3) := by decide +kernel
theorem dL_law_599 : decode cL_law 599 = .ok (.iconst 0, 1) := by decide +kernel
theorem dL_law_600 : decode cL_law 600 = .ok (.ireturn, 1) := by decide +kernel
theorem dL_law_601 : decode cL_law 601 = .ok (.aload_n 1, 1) := by decide +kernel
theorem dL_law_602 : decode cL_law 602 = .ok (.invokevirtual 73, 3) := by decide +kernel
theorem dL_law_605 : decode cL_law 605 = .ok (.aload_n 2, 1) := by decide +kernel
theorem dL_law_606 : decode cL_law 606 = .ok (.invokevirtual 76, 3) := by decide +kernel
theorem dL_law_609 : decode cL_law 609 = .ok (.if_icmp .eq 466, 3) := by decide +kernel
theorem dL_law_612 : decode cL_law 612 = .ok (.iconst 0, 1) := by decide +kernel
theorem dL_law_613 : decode cL_law 613 = .ok (.ireturn, 1) := by decide +kernel
theorem dL_law_614 : decode cL_law 614 = .ok (.aload_n 1, 1) := by decide +kernel
theorem dL_law_615 : decode cL_law 615 = .ok (.aload_n 0, 1) := by decide +kernel
theorem dL_law_616 : decode cL_law 616 = .ok (.iload_n 3, 1) := by decide +kernel
theorem dL_law_617 : decode cL_law 617 = .ok (.iconst 1, 1) := by decide +kernel
theorem dL_law_618 : decode cL_law 618 = .ok (.iadd, 1) := by decide +kernel
theorem dL_law_619 : decode cL_law 619 = .ok (.iaload, 1) := by decide +kernel
theorem dL_law_620 : decode cL_law 620 = .ok (.aload_n 0, 1) := by decide +kernel
theorem dL_law_621 : decode cL_law 621 = .ok (.iload_n 3, 1) := by decide +kernel
theorem dL_law_622 : decode cL_law 622 = .ok (.iconst 2, 1) := by decide +kernel
theorem dL_law_623 : decode cL_law 623 = .ok (.iadd, 1) := by decide +kernel
theorem dL_law_624 : decode cL_law 624 = .ok (.iaload, 1) := by decide +kernel
theorem dL_law_625 : decode cL_law 625 = .ok (.invokevirtual 77, 3) := by decide +kernel
theorem dL_law_628 : decode cL_law 628 = .ok (.aload_n 2, 1) := by decide +kernel
theorem dL_law_629 : decode cL_law 629 = .ok (.aload_n 0, 1) := by decide +kernel
theorem dL_law_630 : decode cL_law 630 = .ok (.iload_n 3, 1) := by decide +kernel
theorem dL_law_631 : decode cL_law 631 = .ok (.iconst 1, 1) := by decide +kernel
theorem dL_law_632 : decode cL_law 632 = .ok (.iadd, 1) := by decide +kernel
theorem dL_law_633 : decode cL_law 633 = .ok (.iaload, 1) := by decide +kernel
theorem dL_law_634 : decode cL_law 634 = .ok (.aload_n 0, 1) := by decide +kernel
theorem dL_law_635 : decode cL_law 635 = .ok (.iload_n 3, 1) := by decide +kernel
theorem dL_law_636 : decode cL_law 636 = .ok (.iconst 2, 1) := by decide +kernel
theorem dL_law_637 : decode cL_law 637 = .ok (.iadd, 1) := by decide +kernel
theorem dL_law_638 : decode cL_law 638 = .ok (.iaload, 1) := by decide +kernel
theorem dL_law_639 : decode cL_law 639 = .ok (.invokevirtual 80, 3) := by decide +kernel
theorem dL_law_642 : decode cL_law 642 = .ok (.if_icmp .eq 433, 3) := by decide +kernel
theorem dL_law_645 : decode cL_law 645 = .ok (.iconst 0, 1) := by decide +kernel
theorem dL_law_646 : decode cL_law 646 = .ok (.ireturn, 1) := by decide +kernel
theorem dL_law_647 : decode cL_law 647 = .ok (.aload_n 1, 1) := by decide +kernel
theorem dL_law_648 : decode cL_law 648 = .ok (.aload_n 0, 1) := by decide +kernel
theorem dL_law_649 : decode cL_law 649 = .ok (.iload_n 3, 1) := by decide +kernel
theorem dL_law_650 : decode cL_law 650 = .ok (.iconst 1, 1) := by decide +kernel
theorem dL_law_651 : decode cL_law 651 = .ok (.iadd, 1) := by decide +kernel
theorem dL_law_652 : decode cL_law 652 = .ok (.iaload, 1) := by decide +kernel
theorem dL_law_653 : decode cL_law 653 = .ok (.invokevirtual 81, 3) := by decide +kernel
theorem dL_law_656 : decode cL_law 656 = .ok (.aload_n 2, 1) := by decide +kernel
theorem dL_law_657 : decode cL_law 657 = .ok (.aload_n 0, 1) := by decide +kernel
theorem dL_law_658 : decode cL_law 658 = .ok (.iload_n 3, 1) := by decide +kernel
theorem dL_law_659 : decode cL_law 659 = .ok (.iconst 1, 1) := by decide +kernel
theorem dL_law_660 : decode cL_law 660 = .ok (.iadd, 1) := by decide +kernel
theorem dL_law_661 : decode cL_law 661 = .ok (.iaload, 1) := by decide +kernel
theorem dL_law_662 : decode cL_law 662 = .ok (.invokevirtual 84, 3) := by decide +kernel
theorem dL_law_665 : decode cL_law 665 = .ok (.if_icmp .eq 410, 3) := by decide +kernel
theorem dL_law_668 : decode cL_law 668 = .ok (.iconst 0, 1) := by decide +kernel
theorem dL_law_669 : decode cL_law 669 = .ok (.ireturn, 1) := by decide +kernel
theorem dL_law_670 : decode cL_law 670 = .ok (.aload_n 1, 1) := by decide +kernel
theorem dL_law_671 : decode cL_law 671 = .ok (.aload_n 0, 1) := by decide +kernel
theorem dL_law_672 : decode cL_law 672 = .ok (.iload_n 3, 1) := by decide +kernel
theorem dL_law_673 : decode cL_law 673 = .ok (.iconst 1, 1) := by decide +kernel
theorem dL_law_674 : decode cL_law 674 = .ok (.iadd, 1) := by decide +kernel
theorem dL_law_675 : decode cL_law 675 = .ok (.iaload, 1) := by decide +kernel
theorem dL_law_676 : decode cL_law 676 = .ok (.invokevirtual 85, 3) := by decide +kernel
theorem dL_law_679 : decode cL_law 679 = .ok (.aload_n 2, 1) := by decide +kernel
theorem dL_law_680 : decode cL_law 680 = .ok (.aload_n 0, 1) := by decide +kernel
theorem dL_law_681 : decode cL_law 681 = .ok (.iload_n 3, 1) := by decide +kernel
theorem dL_law_682 : decode cL_law 682 = .ok (.iconst 1, 1) := by decide +kernel
theorem dL_law_683 : decode cL_law 683 = .ok (.iadd, 1) := by decide +kernel
theorem dL_law_684 : decode cL_law 684 = .ok (.iaload, 1) := by decide +kernel
theorem dL_law_685 : decode cL_law 685 = .ok (.invokevirtual 88, 3) := by decide +kernel
theorem dL_law_688 : decode cL_law 688 = .ok (.if_icmp .eq 387, 3) := by decide +kernel
theorem dL_law_691 : decode cL_law 691 = .ok (.iconst 0, 1) := by decide +kernel
theorem dL_law_692 : decode cL_law 692 = .ok (.ireturn, 1) := by decide +kernel
theorem dL_law_693 : decode cL_law 693 = .ok (.aload_n 1, 1) := by decide +kernel
theorem dL_law_694 : decode cL_law 694 = .ok (.aload_n 0, 1) := by decide +kernel
theorem dL_law_695 : decode cL_law 695 = .ok (.iload_n 3, 1) := by decide +kernel
theorem dL_law_696 : decode cL_law 696 = .ok (.iconst 1, 1) := by decide +kernel
theorem dL_law_697 : decode cL_law 697 = .ok (.iadd, 1) := by decide +kernel
theorem dL_law_698 : decode cL_law 698 = .ok (.iaload, 1) := by decide +kernel
theorem dL_law_699 : decode cL_law 699 = .ok (.aload_n 0, 1) := by decide +kernel
theorem dL_law_700 : decode cL_law 700 = .ok (.iload_n 3, 1) := by decide +kernel
theorem dL_law_701 : decode cL_law 701 = .ok (.iconst 2, 1) := by decide +kernel
theorem dL_law_702 : decode cL_law 702 = .ok (.iadd, 1) := by decide +kernel
theorem dL_law_703 : decode cL_law 703 = .ok (.iaload, 1) := by decide +kernel
theorem dL_law_704 : decode cL_law 704 = .ok (.invokevirtual 89, 3) := by decide +kernel
theorem dL_law_707 : decode cL_law 707 = .ok (.aload_n 2, 1) := by decide +kernel
theorem dL_law_708 : decode cL_law 708 = .ok (.aload_n 0, 1) := by decide +kernel
theorem dL_law_709 : decode cL_law 709 = .ok (.iload_n 3, 1) := by decide +kernel
theorem dL_law_710 : decode cL_law 710 = .ok (.iconst 1, 1) := by decide +kernel
theorem dL_law_711 : decode cL_law 711 = .ok (.iadd, 1) := by decide +kernel
theorem dL_law_712 : decode cL_law 712 = .ok (.iaload, 1) := by decide +kernel
theorem dL_law_713 : decode cL_law 713 = .ok (.aload_n 0, 1) := by decide +kernel
theorem dL_law_714 : decode cL_law 714 = .ok (.iload_n 3, 1) := by decide +kernel
theorem dL_law_715 : decode cL_law 715 = .ok (.iconst 2, 1) := by decide +kernel
theorem dL_law_716 : decode cL_law 716 = .ok (.iadd, 1) := by decide +kernel
theorem dL_law_717 : decode cL_law 717 = .ok (.iaload, 1) := by decide +kernel
theorem dL_law_718 : decode cL_law 718 = .ok (.invokevirtual 92, 3) := by decide +kernel
theorem dL_law_721 : decode cL_law 721 = .ok (.if_icmp .eq 354, 3) := by decide +kernel
theorem dL_law_724 : decode cL_law 724 = .ok (.iconst 0, 1) := by decide +kernel
theorem dL_law_725 : decode cL_law 725 = .ok (.ireturn, 1) := by decide +kernel
theorem dL_law_726 : decode cL_law 726 = .ok (.aload_n 1, 1) := by decide +kernel
theorem dL_law_727 : decode cL_law 727 = .ok (.aload_n 0, 1) := by decide +kernel
theorem dL_law_728 : decode cL_law 728 = .ok (.iload_n 3, 1) := by decide +kernel
theorem dL_law_729 : decode cL_law 729 = .ok (.iconst 1, 1) := by decide +kernel
theorem dL_law_730 : decode cL_law 730 = .ok (.iadd, 1) := by decide +kernel
theorem dL_law_731 : decode cL_law 731 = .ok (.iaload, 1) := by decide +kernel
theorem dL_law_732 : decode cL_law 732 = .ok (.aload_n 0, 1) := by decide +kernel
theorem dL_law_733 : decode cL_law 733 = .ok (.iload_n 3, 1) := by decide +kernel
theorem dL_law_734 : decode cL_law 734 = .ok (.iconst 2, 1) := by decide +kernel
theorem dL_law_735 : decode cL_law 735 = .ok (.iadd, 1) := by decide +kernel
theorem dL_law_736 : decode cL_law 736 = .ok (.iaload, 1) := by decide +kernel
theorem dL_law_737 : decode cL_law 737 = .ok (.invokevirtual 93, 3) := by decide +kernel
theorem dL_law_740 : decode cL_law 740 = .ok (.aload_n 2, 1) := by decide +kernel
theorem dL_law_741 : decode cL_law 741 = .ok (.aload_n 0, 1) := by decide +kernel
theorem dL_law_742 : decode cL_law 742 = .ok (.iload_n 3, 1) := by decide +kernel
theorem dL_law_743 : decode cL_law 743 = .ok (.iconst 1, 1) := by decide +kernel
theorem dL_law_744 : decode cL_law 744 = .ok (.iadd, 1) := by decide +kernel
theorem dL_law_745 : decode cL_law 745 = .ok (.iaload, 1) := by decide +kernel
theorem dL_law_746 : decode cL_law 746 = .ok (.aload_n 0, 1) := by decide +kernel
theorem dL_law_747 : decode cL_law 747 = .ok (.iload_n 3, 1) := by decide +kernel
theorem dL_law_748 : decode cL_law 748 = .ok (.iconst 2, 1) := by decide +kernel
theorem dL_law_749 : decode cL_law 749 = .ok (.iadd, 1) := by decide +kernel
theorem dL_law_750 : decode cL_law 750 = .ok (.iaload, 1) := by decide +kernel
theorem dL_law_751 : decode cL_law 751 = .ok (.invokevirtual 96, 3) := by decide +kernel
theorem dL_law_754 : decode cL_law 754 = .ok (.if_icmp .eq 321, 3) := by decide +kernel
theorem dL_law_757 : decode cL_law 757 = .ok (.iconst 0, 1) := by decide +kernel
theorem dL_law_758 : decode cL_law 758 = .ok (.ireturn, 1) := by decide +kernel
theorem dL_law_759 : decode cL_law 759 = .ok (.aload_n 1, 1) := by decide +kernel
theorem dL_law_760 : decode cL_law 760 = .ok (.aload_n 0, 1) := by decide +kernel
theorem dL_law_761 : decode cL_law 761 = .ok (.iload_n 3, 1) := by decide +kernel
theorem dL_law_762 : decode cL_law 762 = .ok (.iconst 1, 1) := by decide +kernel
theorem dL_law_763 : decode cL_law 763 = .ok (.iadd, 1) := by decide +kernel
theorem dL_law_764 : decode cL_law 764 = .ok (.iaload, 1) := by decide +kernel
theorem dL_law_765 : decode cL_law 765 = .ok (.aload_n 0, 1) := by decide +kernel
theorem dL_law_766 : decode cL_law 766 = .ok (.iload_n 3, 1) := by decide +kernel
theorem dL_law_767 : decode cL_law 767 = .ok (.iconst 2, 1) := by decide +kernel
theorem dL_law_768 : decode cL_law 768 = .ok (.iadd, 1) := by decide +kernel
theorem dL_law_769 : decode cL_law 769 = .ok (.iaload, 1) := by decide +kernel
theorem dL_law_770 : decode cL_law 770 = .ok (.aload_n 0, 1) := by decide +kernel
theorem dL_law_771 : decode cL_law 771 = .ok (.iload_n 3, 1) := by decide +kernel
theorem dL_law_772 : decode cL_law 772 = .ok (.iconst 3, 1) := by decide +kernel
theorem dL_law_773 : decode cL_law 773 = .ok (.iadd, 1) := by decide +kernel
theorem dL_law_774 : decode cL_law 774 = .ok (.iaload, 1) := by decide +kernel
theorem dL_law_775 : decode cL_law 775 = .ok (.invokevirtual 97, 3) := by decide +kernel
theorem dL_law_778 : decode cL_law 778 = .ok (.aload_n 2, 1) := by decide +kernel
theorem dL_law_779 : decode cL_law 779 = .ok (.aload_n 0, 1) := by decide +kernel
theorem dL_law_780 : decode cL_law 780 = .ok (.iload_n 3, 1) := by decide +kernel
theorem dL_law_781 : decode cL_law 781 = .ok (.iconst 1, 1) := by decide +kernel
theorem dL_law_782 : decode cL_law 782 = .ok (.iadd, 1) := by decide +kernel
theorem dL_law_783 : decode cL_law 783 = .ok (.iaload, 1) := by decide +kernel
theorem dL_law_784 : decode cL_law 784 = .ok (.aload_n 0, 1) := by decide +kernel
theorem dL_law_785 : decode cL_law 785 = .ok (.iload_n 3, 1) := by decide +kernel
theorem dL_law_786 : decode cL_law 786 = .ok (.iconst 2, 1) := by decide +kernel
theorem dL_law_787 : decode cL_law 787 = .ok (.iadd, 1) := by decide +kernel
theorem dL_law_788 : decode cL_law 788 = .ok (.iaload, 1) := by decide +kernel
theorem dL_law_789 : decode cL_law 789 = .ok (.aload_n 0, 1) := by decide +kernel
theorem dL_law_790 : decode cL_law 790 = .ok (.iload_n 3, 1) := by decide +kernel
theorem dL_law_791 : decode cL_law 791 = .ok (.iconst 3, 1) := by decide +kernel
theorem dL_law_792 : decode cL_law 792 = .ok (.iadd, 1) := by decide +kernel
theorem dL_law_793 : decode cL_law 793 = .ok (.iaload, 1) := by decide +kernel
theorem dL_law_794 : decode cL_law 794 = .ok (.invokevirtual 100, 3) := by decide +kernel
theorem dL_law_797 : decode cL_law 797 = .ok (.if_icmp .eq 278, 3) := by decide +kernel
theorem dL_law_800 : decode cL_law 800 = .ok (.iconst 0, 1) := by decide +kernel
theorem dL_law_801 : decode cL_law 801 = .ok (.ireturn, 1) := by decide +kernel
theorem dL_law_802 : decode cL_law 802 = .ok (.aload_n 1, 1) := by decide +kernel
theorem dL_law_803 : decode cL_law 803 = .ok (.aload_n 0, 1) := by decide +kernel
theorem dL_law_804 : decode cL_law 804 = .ok (.iload_n 3, 1) := by decide +kernel
theorem dL_law_805 : decode cL_law 805 = .ok (.iconst 1, 1) := by decide +kernel
theorem dL_law_806 : decode cL_law 806 = .ok (.iadd, 1) := by decide +kernel
theorem dL_law_807 : decode cL_law 807 = .ok (.iaload, 1) := by decide +kernel
theorem dL_law_808 : decode cL_law 808 = .ok (.aload_n 0, 1) := by decide +kernel
theorem dL_law_809 : decode cL_law 809 = .ok (.iload_n 3, 1) := by decide +kernel
theorem dL_law_810 : decode cL_law 810 = .ok (.iconst 2, 1) := by decide +kernel
theorem dL_law_811 : decode cL_law 811 = .ok (.iadd, 1) := by decide +kernel
theorem dL_law_812 : decode cL_law 812 = .ok (.iaload, 1) := by decide +kernel
theorem dL_law_813 : decode cL_law 813 = .ok (.invokevirtual 101, 3) := by decide +kernel
theorem dL_law_816 : decode cL_law 816 = .ok (.aload_n 2, 1) := by decide +kernel
theorem dL_law_817 : decode cL_law 817 = .ok (.aload_n 0, 1) := by decide +kernel
theorem dL_law_818 : decode cL_law 818 = .ok (.iload_n 3, 1) := by decide +kernel
theorem dL_law_819 : decode cL_law 819 = .ok (.iconst 1, 1) := by decide +kernel
theorem dL_law_820 : decode cL_law 820 = .ok (.iadd, 1) := by decide +kernel
theorem dL_law_821 : decode cL_law 821 = .ok (.iaload, 1) := by decide +kernel
theorem dL_law_822 : decode cL_law 822 = .ok (.aload_n 0, 1) := by decide +kernel
theorem dL_law_823 : decode cL_law 823 = .ok (.iload_n 3, 1) := by decide +kernel
theorem dL_law_824 : decode cL_law 824 = .ok (.iconst 2, 1) := by decide +kernel
theorem dL_law_825 : decode cL_law 825 = .ok (.iadd, 1) := by decide +kernel
theorem dL_law_826 : decode cL_law 826 = .ok (.iaload, 1) := by decide +kernel
theorem dL_law_827 : decode cL_law 827 = .ok (.invokevirtual 104, 3) := by decide +kernel
theorem dL_law_830 : decode cL_law 830 = .ok (.if_icmp .eq 245, 3) := by decide +kernel
theorem dL_law_833 : decode cL_law 833 = .ok (.iconst 0, 1) := by decide +kernel
theorem dL_law_834 : decode cL_law 834 = .ok (.ireturn, 1) := by decide +kernel
theorem dL_law_835 : decode cL_law 835 = .ok (.aload_n 1, 1) := by decide +kernel
theorem dL_law_836 : decode cL_law 836 = .ok (.aload_n 0, 1) := by decide +kernel
theorem dL_law_837 : decode cL_law 837 = .ok (.iload_n 3, 1) := by decide +kernel
theorem dL_law_838 : decode cL_law 838 = .ok (.iconst 1, 1) := by decide +kernel
theorem dL_law_839 : decode cL_law 839 = .ok (.iadd, 1) := by decide +kernel
theorem dL_law_840 : decode cL_law 840 = .ok (.iaload, 1) := by decide +kernel
theorem dL_law_841 : decode cL_law 841 = .ok (.invokevirtual 105, 3) := by decide +kernel
theorem dL_law_844 : decode cL_law 844 = .ok (.aload_n 2, 1) := by decide +kernel
theorem dL_law_845 : decode cL_law 845 = .ok (.aload_n 0, 1) := by decide +kernel
theorem dL_law_846 : decode cL_law 846 = .ok (.iload_n 3, 1) := by decide +kernel
theorem dL_law_847 : decode cL_law 847 = .ok (.iconst 1, 1) := by decide +kernel
theorem dL_law_848 : decode cL_law 848 = .ok (.iadd, 1) := by decide +kernel
theorem dL_law_849 : decode cL_law 849 = .ok (.iaload, 1) := by decide +kernel
theorem dL_law_850 : decode cL_law 850 = .ok (.invokevirtual 108, 3) := by decide +kernel
theorem dL_law_853 : decode cL_law 853 = .ok (.if_icmp .eq 222, 3) := by decide +kernel
theorem dL_law_856 : decode cL_law 856 = .ok (.iconst 0, 1) := by decide +kernel
theorem dL_law_857 : decode cL_law 857 = .ok (.ireturn, 1) := by decide +kernel
theorem dL_law_858 : decode cL_law 858 = .ok (.aload_n 1, 1) := by decide +kernel
theorem dL_law_859 : decode cL_law 859 = .ok (.aload_n 0, 1) := by decide +kernel
theorem dL_law_860 : decode cL_law 860 = .ok (.iload_n 3, 1) := by decide +kernel
theorem dL_law_861 : decode cL_law 861 = .ok (.iconst 1, 1) := by decide +kernel
theorem dL_law_862 : decode cL_law 862 = .ok (.iadd, 1) := by decide +kernel
theorem dL_law_863 : decode cL_law 863 = .ok (.iaload, 1) := by decide +kernel
theorem dL_law_864 : decode cL_law 864 = .ok (.invokevirtual 109, 3) := by decide +kernel
theorem dL_law_867 : decode cL_law 867 = .ok (.aload_n 2, 1) := by decide +kernel
theorem dL_law_868 : decode cL_law 868 = .ok (.aload_n 0, 1) := by decide +kernel
theorem dL_law_869 : decode cL_law 869 = .ok (.iload_n 3, 1) := by decide +kernel
theorem dL_law_870 : decode cL_law 870 = .ok (.iconst 1, 1) := by decide +kernel
theorem dL_law_871 : decode cL_law 871 = .ok (.iadd, 1) := by decide +kernel
theorem dL_law_872 : decode cL_law 872 = .ok (.iaload, 1) := by decide +kernel
theorem dL_law_873 : decode cL_law 873 = .ok (.invokevirtual 112, 3) := by decide +kernel
theorem dL_law_876 : decode cL_law 876 = .ok (.if_icmp .eq 199, 3) := by decide +kernel
theorem dL_law_879 : decode cL_law 879 = .ok (.iconst 0, 1) := by decide +kernel
theorem dL_law_880 : decode cL_law 880 = .ok (.ireturn, 1) := by decide +kernel
theorem dL_law_881 : decode cL_law 881 = .ok (.aload_n 1, 1) := by decide +kernel
theorem dL_law_882 : decode cL_law 882 = .ok (.aload_n 0, 1) := by decide +kernel
theorem dL_law_883 : decode cL_law 883 = .ok (.iload_n 3, 1) := by decide +kernel
theorem dL_law_884 : decode cL_law 884 = .ok (.iconst 1, 1) := by decide +kernel
theorem dL_law_885 : decode cL_law 885 = .ok (.iadd, 1) := by decide +kernel
theorem dL_law_886 : decode cL_law 886 = .ok (.iaload, 1) := by decide +kernel
theorem dL_law_887 : decode cL_law 887 = .ok (.invokevirtual 113, 3) := by decide +kernel
theorem dL_law_890 : decode cL_law 890 = .ok (.aload_n 2, 1) := by decide +kernel
theorem dL_law_891 : decode cL_law 891 = .ok (.aload_n 0, 1) := by decide +kernel
theorem dL_law_892 : decode cL_law 892 = .ok (.iload_n 3, 1) := by decide +kernel
theorem dL_law_893 : decode cL_law 893 = .ok (.iconst 1, 1) := by decide +kernel
theorem dL_law_894 : decode cL_law 894 = .ok (.iadd, 1) := by decide +kernel
theorem dL_law_895 : decode cL_law 895 = .ok (.iaload, 1) := by decide +kernel
theorem dL_law_896 : decode cL_law 896 = .ok (.invokevirtual 116, 3) := by decide +kernel
theorem dL_law_899 : decode cL_law 899 = .ok (.if_icmp .eq 176, 3) := by decide +kernel
theorem dL_law_902 : decode cL_law 902 = .ok (.iconst 0, 1) := by decide +kernel
theorem dL_law_903 : decode cL_law 903 = .ok (.ireturn, 1) := by decide +kernel
theorem dL_law_904 : decode cL_law 904 = .ok (.aload_n 1, 1) := by decide +kernel
theorem dL_law_905 : decode cL_law 905 = .ok (.aload_n 0, 1) := by decide +kernel
theorem dL_law_906 : decode cL_law 906 = .ok (.iload_n 3, 1) := by decide +kernel
theorem dL_law_907 : decode cL_law 907 = .ok (.iconst 1, 1) := by decide +kernel
theorem dL_law_908 : decode cL_law 908 = .ok (.iadd, 1) := by decide +kernel
theorem dL_law_909 : decode cL_law 909 = .ok (.iaload, 1) := by decide +kernel
theorem dL_law_910 : decode cL_law 910 = .ok (.invokevirtual 117, 3) := by decide +kernel
theorem dL_law_913 : decode cL_law 913 = .ok (.aload_n 2, 1) := by decide +kernel
theorem dL_law_914 : decode cL_law 914 = .ok (.aload_n 0, 1) := by decide +kernel
theorem dL_law_915 : decode cL_law 915 = .ok (.iload_n 3, 1) := by decide +kernel
theorem dL_law_916 : decode cL_law 916 = .ok (.iconst 1, 1) := by decide +kernel
theorem dL_law_917 : decode cL_law 917 = .ok (.iadd, 1) := by decide +kernel
theorem dL_law_918 : decode cL_law 918 = .ok (.iaload, 1) := by decide +kernel
theorem dL_law_919 : decode cL_law 919 = .ok (.invokevirtual 120, 3) := by decide +kernel
theorem dL_law_922 : decode cL_law 922 = .ok (.if_icmp .eq 153, 3) := by decide +kernel
theorem dL_law_925 : decode cL_law 925 = .ok (.iconst 0, 1) := by decide +kernel
theorem dL_law_926 : decode cL_law 926 = .ok (.ireturn, 1) := by decide +kernel
theorem dL_law_927 : decode cL_law 927 = .ok (.aload_n 1, 1) := by decide +kernel
theorem dL_law_928 : decode cL_law 928 = .ok (.aload_n 0, 1) := by decide +kernel
theorem dL_law_929 : decode cL_law 929 = .ok (.iload_n 3, 1) := by decide +kernel
theorem dL_law_930 : decode cL_law 930 = .ok (.iconst 1, 1) := by decide +kernel
theorem dL_law_931 : decode cL_law 931 = .ok (.iadd, 1) := by decide +kernel
theorem dL_law_932 : decode cL_law 932 = .ok (.iaload, 1) := by decide +kernel
theorem dL_law_933 : decode cL_law 933 = .ok (.invokevirtual 121, 3) := by decide +kernel
theorem dL_law_936 : decode cL_law 936 = .ok (.aload_n 2, 1) := by decide +kernel
theorem dL_law_937 : decode cL_law 937 = .ok (.aload_n 0, 1) := by decide +kernel
theorem dL_law_938 : decode cL_law 938 = .ok (.iload_n 3, 1) := by decide +kernel
theorem dL_law_939 : decode cL_law 939 = .ok (.iconst 1, 1) := by decide +kernel
theorem dL_law_940 : decode cL_law 940 = .ok (.iadd, 1) := by decide +kernel
theorem dL_law_941 : decode cL_law 941 = .ok (.iaload, 1) := by decide +kernel
theorem dL_law_942 : decode cL_law 942 = .ok (.invokevirtual 124, 3) := by decide +kernel
theorem dL_law_945 : decode cL_law 945 = .ok (.if_icmp .eq 130, 3) := by decide +kernel
theorem dL_law_948 : decode cL_law 948 = .ok (.iconst 0, 1) := by decide +kernel
theorem dL_law_949 : decode cL_law 949 = .ok (.ireturn, 1) := by decide +kernel
theorem dL_law_950 : decode cL_law 950 = .ok (.aload_n 1, 1) := by decide +kernel
theorem dL_law_951 : decode cL_law 951 = .ok (.aload_n 0, 1) := by decide +kernel
theorem dL_law_952 : decode cL_law 952 = .ok (.iload_n 3, 1) := by decide +kernel
theorem dL_law_953 : decode cL_law 953 = .ok (.iconst 1, 1) := by decide +kernel
theorem dL_law_954 : decode cL_law 954 = .ok (.iadd, 1) := by decide +kernel
theorem dL_law_955 : decode cL_law 955 = .ok (.iaload, 1) := by decide +kernel
theorem dL_law_956 : decode cL_law 956 = .ok (.aload_n 0, 1) := by decide +kernel
theorem dL_law_957 : decode cL_law 957 = .ok (.iload_n 3, 1) := by decide +kernel
theorem dL_law_958 : decode cL_law 958 = .ok (.iconst 2, 1) := by decide +kernel
theorem dL_law_959 : decode cL_law 959 = .ok (.iadd, 1) := by decide +kernel
theorem dL_law_960 : decode cL_law 960 = .ok (.iaload, 1) := by decide +kernel
theorem dL_law_961 : decode cL_law 961 = .ok (.invokevirtual 125, 3) := by decide +kernel
theorem dL_law_964 : decode cL_law 964 = .ok (.aload_n 2, 1) := by decide +kernel
theorem dL_law_965 : decode cL_law 965 = .ok (.aload_n 0, 1) := by decide +kernel
theorem dL_law_966 : decode cL_law 966 = .ok (.iload_n 3, 1) := by decide +kernel
theorem dL_law_967 : decode cL_law 967 = .ok (.iconst 1, 1) := by decide +kernel
theorem dL_law_968 : decode cL_law 968 = .ok (.iadd, 1) := by decide +kernel
theorem dL_law_969 : decode cL_law 969 = .ok (.iaload, 1) := by decide +kernel
theorem dL_law_970 : decode cL_law 970 = .ok (.aload_n 0, 1) := by decide +kernel
theorem dL_law_971 : decode cL_law 971 = .ok (.iload_n 3, 1) := by decide +kernel
theorem dL_law_972 : decode cL_law 972 = .ok (.iconst 2, 1) := by decide +kernel
theorem dL_law_973 : decode cL_law 973 = .ok (.iadd, 1) := by decide +kernel
theorem dL_law_974 : decode cL_law 974 = .ok (.iaload, 1) := by decide +kernel
theorem dL_law_975 : decode cL_law 975 = .ok (.invokevirtual 128, 3) := by decide +kernel
theorem dL_law_978 : decode cL_law 978 = .ok (.if_icmp .eq 97, 3) := by decide +kernel
theorem dL_law_981 : decode cL_law 981 = .ok (.iconst 0, 1) := by decide +kernel
theorem dL_law_982 : decode cL_law 982 = .ok (.ireturn, 1) := by decide +kernel
theorem dL_law_983 : decode cL_law 983 = .ok (.aload_n 1, 1) := by decide +kernel
theorem dL_law_984 : decode cL_law 984 = .ok (.aload_n 0, 1) := by decide +kernel
theorem dL_law_985 : decode cL_law 985 = .ok (.iload_n 3, 1) := by decide +kernel
theorem dL_law_986 : decode cL_law 986 = .ok (.iconst 1, 1) := by decide +kernel
theorem dL_law_987 : decode cL_law 987 = .ok (.iadd, 1) := by decide +kernel
theorem dL_law_988 : decode cL_law 988 = .ok (.iaload, 1) := by decide +kernel
theorem dL_law_989 : decode cL_law 989 = .ok (.aload_n 0, 1) := by decide +kernel
theorem dL_law_990 : decode cL_law 990 = .ok (.iload_n 3, 1) := by decide +kernel
theorem dL_law_991 : decode cL_law 991 = .ok (.iconst 2, 1) := by decide +kernel
theorem dL_law_992 : decode cL_law 992 = .ok (.iadd, 1) := by decide +kernel
theorem dL_law_993 : decode cL_law 993 = .ok (.iaload, 1) := by decide +kernel
theorem dL_law_994 : decode cL_law 994 = .ok (.invokevirtual 129, 3) := by decide +kernel
theorem dL_law_997 : decode cL_law 997 = .ok (.aload_n 2, 1) := by decide +kernel
theorem dL_law_998 : decode cL_law 998 = .ok (.aload_n 0, 1) := by decide +kernel
theorem dL_law_999 : decode cL_law 999 = .ok (.iload_n 3, 1) := by decide +kernel
theorem dL_law_1000 : decode cL_law 1000 = .ok (.iconst 1, 1) := by decide +kernel
theorem dL_law_1001 : decode cL_law 1001 = .ok (.iadd, 1) := by decide +kernel
theorem dL_law_1002 : decode cL_law 1002 = .ok (.iaload, 1) := by decide +kernel
theorem dL_law_1003 : decode cL_law 1003 = .ok (.aload_n 0, 1) := by decide +kernel
theorem dL_law_1004 : decode cL_law 1004 = .ok (.iload_n 3, 1) := by decide +kernel
theorem dL_law_1005 : decode cL_law 1005 = .ok (.iconst 2, 1) := by decide +kernel
theorem dL_law_1006 : decode cL_law 1006 = .ok (.iadd, 1) := by decide +kernel
theorem dL_law_1007 : decode cL_law 1007 = .ok (.iaload, 1) := by decide +kernel
theorem dL_law_1008 : decode cL_law 1008 = .ok (.invokevirtual 132, 3) := by decide +kernel
theorem dL_law_1011 : decode cL_law 1011 = .ok (.if_icmp .eq 64, 3) := by decide +kernel
theorem dL_law_1014 : decode cL_law 1014 = .ok (.iconst 0, 1) := by decide +kernel
theorem dL_law_1015 : decode cL_law 1015 = .ok (.ireturn, 1) := by decide +kernel
theorem dL_law_1016 : decode cL_law 1016 = .ok (.aload_n 1, 1) := by decide +kernel
theorem dL_law_1017 : decode cL_law 1017 = .ok (.aload_n 0, 1) := by decide +kernel
theorem dL_law_1018 : decode cL_law 1018 = .ok (.iload_n 3, 1) := by decide +kernel
theorem dL_law_1019 : decode cL_law 1019 = .ok (.iconst 1, 1) := by decide +kernel
theorem dL_law_1020 : decode cL_law 1020 = .ok (.iadd, 1) := by decide +kernel
theorem dL_law_1021 : decode cL_law 1021 = .ok (.iaload, 1) := by decide +kernel
theorem dL_law_1022 : decode cL_law 1022 = .ok (.invokevirtual 133, 3) := by decide +kernel
theorem dL_law_1025 : decode cL_law 1025 = .ok (.aload_n 2, 1) := by decide +kernel
theorem dL_law_1026 : decode cL_law 1026 = .ok (.aload_n 0, 1) := by decide +kernel
theorem dL_law_1027 : decode cL_law 1027 = .ok (.iload_n 3, 1) := by decide +kernel
theorem dL_law_1028 : decode cL_law 1028 = .ok (.iconst 1, 1) := by decide +kernel
theorem dL_law_1029 : decode cL_law 1029 = .ok (.iadd, 1) := by decide +kernel
theorem dL_law_1030 : decode cL_law 1030 = .ok (.iaload, 1) := by decide +kernel
theorem dL_law_1031 : decode cL_law 1031 = .ok (.invokevirtual 136, 3) := by decide +kernel
theorem dL_law_1034 : decode cL_law 1034 = .ok (.if_icmp .eq 41, 3) := by decide +kernel
theorem dL_law_1037 : decode cL_law 1037 = .ok (.iconst 0, 1) := by decide +kernel
theorem dL_law_1038 : decode cL_law 1038 = .ok (.ireturn, 1) := by decide +kernel
theorem dL_law_1039 : decode cL_law 1039 = .ok (.aload_n 1, 1) := by decide +kernel
theorem dL_law_1040 : decode cL_law 1040 = .ok (.aload_n 0, 1) := by decide +kernel
theorem dL_law_1041 : decode cL_law 1041 = .ok (.iload_n 3, 1) := by decide +kernel
theorem dL_law_1042 : decode cL_law 1042 = .ok (.iconst 1, 1) := by decide +kernel
theorem dL_law_1043 : decode cL_law 1043 = .ok (.iadd, 1) := by decide +kernel
theorem dL_law_1044 : decode cL_law 1044 = .ok (.iaload, 1) := by decide +kernel
theorem dL_law_1045 : decode cL_law 1045 = .ok (.invokevirtual 137, 3) := by decide +kernel
theorem dL_law_1048 : decode cL_law 1048 = .ok (.aload_n 2, 1) := by decide +kernel
theorem dL_law_1049 : decode cL_law 1049 = .ok (.aload_n 0, 1) := by decide +kernel
theorem dL_law_1050 : decode cL_law 1050 = .ok (.iload_n 3, 1) := by decide +kernel
theorem dL_law_1051 : decode cL_law 1051 = .ok (.iconst 1, 1) := by decide +kernel
theorem dL_law_1052 : decode cL_law 1052 = .ok (.iadd, 1) := by decide +kernel
theorem dL_law_1053 : decode cL_law 1053 = .ok (.iaload, 1) := by decide +kernel
theorem dL_law_1054 : decode cL_law 1054 = .ok (.invokevirtual 140, 3) := by decide +kernel
theorem dL_law_1057 : decode cL_law 1057 = .ok (.if_icmp .eq 18, 3) := by decide +kernel
theorem dL_law_1060 : decode cL_law 1060 = .ok (.iconst 0, 1) := by decide +kernel
theorem dL_law_1061 : decode cL_law 1061 = .ok (.ireturn, 1) := by decide +kernel
theorem dL_law_1062 : decode cL_law 1062 = .ok (.aload_n 1, 1) := by decide +kernel
theorem dL_law_1063 : decode cL_law 1063 = .ok (.invokevirtual 141, 3) := by decide +kernel
theorem dL_law_1066 : decode cL_law 1066 = .ok (.aload_n 2, 1) := by decide +kernel
theorem dL_law_1067 : decode cL_law 1067 = .ok (.invokevirtual 144, 3) := by decide +kernel
theorem dL_law_1070 : decode cL_law 1070 = .ok (.if_icmp .eq 5, 3) := by decide +kernel
theorem dL_law_1073 : decode cL_law 1073 = .ok (.iconst 0, 1) := by decide +kernel
theorem dL_law_1074 : decode cL_law 1074 = .ok (.ireturn, 1) := by decide +kernel
theorem dL_law_1075 : decode cL_law 1075 = .ok (.iinc 3 6, 3) := by decide +kernel
theorem dL_law_1078 : decode cL_law 1078 = .ok (.goto (-1060), 3) := by decide +kernel
theorem dL_law_1081 : decode cL_law 1081 = .ok (.iconst 1, 1) := by decide +kernel
theorem dL_law_1082 : decode cL_law 1082 = .ok (.ireturn, 1) := by decide +kernel
end
section
/-- the words that stay good while the machine goes on -/
def gw : List Cond := lw_tbl.filter goodWord
theorem tw_mk {w : Cond} (i : Nat) (h : lw_tbl[i]? = some w) (hg : goodWord w = true) : w ∈ gw := List.mem_filter.mpr ⟨List.mem_of_getElem? h, hg⟩
theorem gw_tbl {w : Cond} (h : w ∈ gw) : w ∈ lw_tbl := (List.mem_filter.mp h).1
theorem tw_57 : Cond.initialized RL ∈ gw := tw_mk 57 (by decide +kernel) rfl
theorem tw_58 : Cond.initialized RX10 ∈ gw := tw_mk 58 (by decide +kernel) rfl
theorem tw_59 : Cond.initialized RX7 ∈ gw := tw_mk 59 (by decide +kernel) rfl
theorem tw_60 : Cond.initialized RX6 ∈ gw := tw_mk 60 (by decide +kernel) rfl
theorem tw_61 : Cond.initialized RX8 ∈ gw := tw_mk 61 (by decide +kernel) rfl
theorem tw_62 : Cond.initialized RX9 ∈ gw := tw_mk 62 (by decide +kernel) rfl
theorem tw_63 : Cond.initialized RX0 ∈ gw := tw_mk 63 (by decide +kernel) rfl
theorem tw_64 : Cond.initialized RX2 ∈ gw := tw_mk 64 (by decide +kernel) rfl
theorem tw_65 : Cond.initialized RX3 ∈ gw := tw_mk 65 (by decide +kernel) rfl
theorem tw_66 : Cond.initialized RX5 ∈ gw := tw_mk 66 (by decide +kernel) rfl
theorem tw_67 : Cond.initialized RX1 ∈ gw := tw_mk 67 (by decide +kernel) rfl
theorem tw_68 : Cond.initialized RX11 ∈ gw := tw_mk 68 (by decide +kernel) rfl
theorem tw_69 : Cond.initialized RJ10 ∈ gw := tw_mk 69 (by decide +kernel) rfl
theorem tw_70 : Cond.initialized RJ0 ∈ gw := tw_mk 70 (by decide +kernel) rfl
theorem tw_71 : Cond.initialized RJ1 ∈ gw := tw_mk 71 (by decide +kernel) rfl
theorem tw_72 : Cond.initialized RJ3 ∈ gw := tw_mk 72 (by decide +kernel) rfl
theorem tw_74 : Cond.initialized RJ9 ∈ gw := tw_mk 74 (by decide +kernel) rfl
theorem tw_75 : Cond.initialized RJ6 ∈ gw := tw_mk 75 (by decide +kernel) rfl
theorem tw_76 : Cond.initialized RX4 ∈ gw := tw_mk 76 (by decide +kernel) rfl
theorem tw_77 : Cond.classLink RL 7 "VowRope" ∈ gw := tw_mk 77 (by decide +kernel) rfl
theorem tw_78 : Cond.instantiable RX10 12 ∈ gw := tw_mk 78 (by decide +kernel) rfl
theorem tw_79 : Cond.methodLink RL 9 yX10_init ∈ gw := tw_mk 79 (by decide +kernel) rfl
theorem tw_80 : Cond.instanceMethod yX10_init ∈ gw := tw_mk 80 (by decide +kernel) rfl
theorem tw_81 : Cond.code yX10_init cX10_init 1 none ∈ gw := tw_mk 81 (by decide +kernel) rfl
theorem tw_82 : Cond.methodLink RX10 1 objectInit ∈ gw := tw_mk 82 (by decide +kernel) rfl
theorem tw_83 : Cond.instanceMethod objectInit ∈ gw := tw_mk 83 (by decide +kernel) rfl
theorem tw_84 : Cond.code objectInit ⟨#[0xb1]⟩ 1 none ∈ gw := tw_mk 84 (by decide +kernel) rfl
theorem tw_85 : Cond.classLink RX10 7 "VowRope$Rows" ∈ gw := tw_mk 85 (by decide +kernel) rfl
theorem tw_86 : Cond.instantiable RX7 3 ∈ gw := tw_mk 86 (by decide +kernel) rfl
theorem tw_87 : Cond.methodLink RX10 9 yX7_init ∈ gw := tw_mk 87 (by decide +kernel) rfl
theorem tw_88 : Cond.instanceMethod yX7_init ∈ gw := tw_mk 88 (by decide +kernel) rfl
theorem tw_89 : Cond.code yX7_init cX7_init 2 none ∈ gw := tw_mk 89 (by decide +kernel) rfl
theorem tw_90 : Cond.methodLink RX7 1 objectInit ∈ gw := tw_mk 90 (by decide +kernel) rfl
theorem tw_91 : Cond.fieldLink RX7 9 "VowRope$Rows" "lanes" "[I" ∈ gw := tw_mk 91 (by decide +kernel) rfl
theorem tw_92 : Cond.fieldLink RX7 13 "VowRope$Rows" "sizes" "[I" ∈ gw := tw_mk 92 (by decide +kernel) rfl
theorem tw_93 : Cond.fieldLink RX7 16 "VowRope$Rows" "items" "[I" ∈ gw := tw_mk 93 (by decide +kernel) rfl
theorem tw_101 : Cond.arrayClass .int ∈ gw := tw_mk 101 (by decide +kernel) rfl
theorem tw_102 : Cond.classLink RX10 16 "VowRope$Reader" ∈ gw := tw_mk 102 (by decide +kernel) rfl
theorem tw_103 : Cond.instantiable RX6 2 ∈ gw := tw_mk 103 (by decide +kernel) rfl
theorem tw_104 : Cond.methodLinkNest RX10 18 yX6_init "VowRope" ∈ lw_tbl := List.mem_of_getElem? (i := 104) (by decide +kernel)
theorem tw_105 : Cond.instanceMethod yX6_init ∈ gw := tw_mk 105 (by decide +kernel) rfl
theorem tw_106 : Cond.code yX6_init cX6_init 1 none ∈ gw := tw_mk 106 (by decide +kernel) rfl
theorem tw_107 : Cond.methodLink RX6 3 objectInit ∈ gw := tw_mk 107 (by decide +kernel) rfl
theorem tw_108 : Cond.classLink RX6 9 "VowRope$Tape" ∈ gw := tw_mk 108 (by decide +kernel) rfl
theorem tw_109 : Cond.instantiable RX8 6 ∈ gw := tw_mk 109 (by decide +kernel) rfl
theorem tw_110 : Cond.methodLinkNest RX6 11 yX8_init "VowRope" ∈ lw_tbl := List.mem_of_getElem? (i := 110) (by decide +kernel)
theorem tw_111 : Cond.instanceMethod yX8_init ∈ gw := tw_mk 111 (by decide +kernel) rfl
theorem tw_112 : Cond.code yX8_init cX8_init 1 none ∈ gw := tw_mk 112 (by decide +kernel) rfl
theorem tw_113 : Cond.methodLink RX8 1 objectInit ∈ gw := tw_mk 113 (by decide +kernel) rfl
theorem tw_114 : Cond.fieldLink RX8 9 "VowRope$Tape" "bytes" "[B" ∈ gw := tw_mk 114 (by decide +kernel) rfl
theorem tw_115 : Cond.fieldLink RX8 13 "VowRope$Tape" "length" "I" ∈ gw := tw_mk 115 (by decide +kernel) rfl
theorem tw_116 : Cond.fieldLink RX10 134 "VowRope$Tape" "length" "I" ∈ gw := tw_mk 116 (by decide +kernel) rfl
theorem tw_117 : Cond.fieldLink RX8 17 "VowRope$Tape" "token" "I" ∈ gw := tw_mk 117 (by decide +kernel) rfl
theorem tw_118 : Cond.fieldLink RX6 48 "VowRope$Tape" "token" "I" ∈ gw := tw_mk 118 (by decide +kernel) rfl
theorem tw_119 : Cond.fieldLink RX8 20 "VowRope$Tape" "start" "I" ∈ gw := tw_mk 119 (by decide +kernel) rfl
theorem tw_120 : Cond.fieldLink RX10 144 "VowRope$Tape" "start" "I" ∈ gw := tw_mk 120 (by decide +kernel) rfl
theorem tw_121 : Cond.fieldLink RX8 23 "VowRope$Tape" "value" "I" ∈ gw := tw_mk 121 (by decide +kernel) rfl
theorem tw_122 : Cond.fieldLink RX6 106 "VowRope$Tape" "value" "I" ∈ gw := tw_mk 122 (by decide +kernel) rfl
theorem tw_123 : Cond.fieldLink RX8 26 "VowRope$Tape" "at" "I" ∈ gw := tw_mk 123 (by decide +kernel) rfl
theorem tw_137 : Cond.arrayClass .byte ∈ gw := tw_mk 137 (by decide +kernel) rfl
theorem tw_138 : Cond.fieldLink RX6 12 "VowRope$Reader" "tape" "LVowRope$Tape;" ∈ gw := tw_mk 138 (by decide +kernel) rfl
theorem tw_139 : Cond.fieldLink RX10 120 "VowRope$Reader" "tape" "LVowRope$Tape;" ∈ gw := tw_mk 139 (by decide +kernel) rfl
theorem tw_140 : Cond.fieldLink RX6 18 "VowRope$Reader" "found" "I" ∈ gw := tw_mk 140 (by decide +kernel) rfl
theorem tw_141 : Cond.fieldLink RX10 141 "VowRope$Reader" "found" "I" ∈ gw := tw_mk 141 (by decide +kernel) rfl
theorem tw_147 : Cond.classLink RX10 23 "VowRope$Walk" ∈ gw := tw_mk 147 (by decide +kernel) rfl
theorem tw_148 : Cond.instantiable RX9 11 ∈ gw := tw_mk 148 (by decide +kernel) rfl
theorem tw_149 : Cond.methodLinkNest RX10 25 yX9_init "VowRope" ∈ lw_tbl := List.mem_of_getElem? (i := 149) (by decide +kernel)
theorem tw_150 : Cond.instanceMethod yX9_init ∈ gw := tw_mk 150 (by decide +kernel) rfl
theorem tw_151 : Cond.code yX9_init cX9_init 1 none ∈ gw := tw_mk 151 (by decide +kernel) rfl
theorem tw_152 : Cond.methodLink RX9 3 objectInit ∈ gw := tw_mk 152 (by decide +kernel) rfl
theorem tw_153 : Cond.fieldLink RX9 9 "VowRope$Walk" "told" "Z" ∈ gw := tw_mk 153 (by decide +kernel) rfl
theorem tw_154 : Cond.fieldLink RX10 170 "VowRope$Walk" "told" "Z" ∈ gw := tw_mk 154 (by decide +kernel) rfl
theorem tw_155 : Cond.fieldLink RX9 15 "VowRope$Walk" "hemp" "I" ∈ gw := tw_mk 155 (by decide +kernel) rfl
theorem tw_156 : Cond.fieldLink RX6 60 "VowRope$Walk" "hemp" "I" ∈ gw := tw_mk 156 (by decide +kernel) rfl
theorem tw_157 : Cond.fieldLink RX9 19 "VowRope$Walk" "tar" "I" ∈ gw := tw_mk 157 (by decide +kernel) rfl
theorem tw_158 : Cond.fieldLink RX6 63 "VowRope$Walk" "tar" "I" ∈ gw := tw_mk 158 (by decide +kernel) rfl
theorem tw_159 : Cond.fieldLink RX9 22 "VowRope$Walk" "speakers" "I" ∈ gw := tw_mk 159 (by decide +kernel) rfl
theorem tw_160 : Cond.fieldLink RX6 69 "VowRope$Walk" "speakers" "I" ∈ gw := tw_mk 160 (by decide +kernel) rfl
theorem tw_161 : Cond.fieldLink RX10 266 "VowRope$Walk" "speakers" "I" ∈ gw := tw_mk 161 (by decide +kernel) rfl
theorem tw_162 : Cond.fieldLink RX9 25 "VowRope$Walk" "yarns" "I" ∈ gw := tw_mk 162 (by decide +kernel) rfl
theorem tw_163 : Cond.fieldLink RX2 34 "VowRope$Walk" "yarns" "I" ∈ gw := tw_mk 163 (by decide +kernel) rfl
theorem tw_164 : Cond.fieldLink RX3 18 "VowRope$Walk" "yarns" "I" ∈ gw := tw_mk 164 (by decide +kernel) rfl
theorem tw_165 : Cond.fieldLink RX5 29 "VowRope$Walk" "yarns" "I" ∈ gw := tw_mk 165 (by decide +kernel) rfl
theorem tw_166 : Cond.fieldLink RX6 79 "VowRope$Walk" "yarns" "I" ∈ gw := tw_mk 166 (by decide +kernel) rfl
theorem tw_167 : Cond.fieldLink RX10 153 "VowRope$Walk" "yarns" "I" ∈ gw := tw_mk 167 (by decide +kernel) rfl
theorem tw_168 : Cond.fieldLink RX9 28 "VowRope$Walk" "truth" "[I" ∈ gw := tw_mk 168 (by decide +kernel) rfl
theorem tw_169 : Cond.fieldLink RX6 72 "VowRope$Walk" "truth" "[I" ∈ gw := tw_mk 169 (by decide +kernel) rfl
theorem tw_170 : Cond.fieldLink RX9 32 "VowRope$Walk" "price" "[I" ∈ gw := tw_mk 170 (by decide +kernel) rfl
theorem tw_171 : Cond.fieldLink RX6 76 "VowRope$Walk" "price" "[I" ∈ gw := tw_mk 171 (by decide +kernel) rfl
theorem tw_172 : Cond.fieldLink RX9 35 "VowRope$Walk" "sort" "[I" ∈ gw := tw_mk 172 (by decide +kernel) rfl
theorem tw_173 : Cond.fieldLink RX1 17 "VowRope$Walk" "sort" "[I" ∈ gw := tw_mk 173 (by decide +kernel) rfl
theorem tw_174 : Cond.fieldLink RX6 82 "VowRope$Walk" "sort" "[I" ∈ gw := tw_mk 174 (by decide +kernel) rfl
theorem tw_175 : Cond.fieldLink RX10 197 "VowRope$Walk" "sort" "[I" ∈ gw := tw_mk 175 (by decide +kernel) rfl
theorem tw_176 : Cond.fieldLink RX9 38 "VowRope$Walk" "speaker" "[I" ∈ gw := tw_mk 176 (by decide +kernel) rfl
theorem tw_177 : Cond.fieldLink RX1 42 "VowRope$Walk" "speaker" "[I" ∈ gw := tw_mk 177 (by decide +kernel) rfl
theorem tw_178 : Cond.fieldLink RX6 89 "VowRope$Walk" "speaker" "[I" ∈ gw := tw_mk 178 (by decide +kernel) rfl
theorem tw_179 : Cond.fieldLink RX10 214 "VowRope$Walk" "speaker" "[I" ∈ gw := tw_mk 179 (by decide +kernel) rfl
theorem tw_180 : Cond.fieldLink RX9 41 "VowRope$Walk" "fathom" "[I" ∈ gw := tw_mk 180 (by decide +kernel) rfl
theorem tw_181 : Cond.fieldLink RX1 39 "VowRope$Walk" "fathom" "[I" ∈ gw := tw_mk 181 (by decide +kernel) rfl
theorem tw_182 : Cond.fieldLink RX6 91 "VowRope$Walk" "fathom" "[I" ∈ gw := tw_mk 182 (by decide +kernel) rfl
theorem tw_183 : Cond.fieldLink RX10 217 "VowRope$Walk" "fathom" "[I" ∈ gw := tw_mk 183 (by decide +kernel) rfl
theorem tw_184 : Cond.fieldLink RX9 44 "VowRope$Walk" "state" "[I" ∈ gw := tw_mk 184 (by decide +kernel) rfl
theorem tw_185 : Cond.fieldLink RX0 22 "VowRope$Walk" "state" "[I" ∈ gw := tw_mk 185 (by decide +kernel) rfl
theorem tw_186 : Cond.fieldLink RX5 40 "VowRope$Walk" "state" "[I" ∈ gw := tw_mk 186 (by decide +kernel) rfl
theorem tw_187 : Cond.fieldLink RX10 162 "VowRope$Walk" "state" "[I" ∈ gw := tw_mk 187 (by decide +kernel) rfl
theorem tw_211 : Cond.arrayOver (.object "VowRope$Walk") ∈ lw_tbl := List.mem_of_getElem? (i := 211) (by decide +kernel)
theorem tw_212 : Cond.classLink RX10 37 "VowRope$Acts" ∈ gw := tw_mk 212 (by decide +kernel) rfl
theorem tw_213 : Cond.instantiable RX0 3 ∈ gw := tw_mk 213 (by decide +kernel) rfl
theorem tw_214 : Cond.methodLinkNest RX10 39 yX0_init "VowRope" ∈ lw_tbl := List.mem_of_getElem? (i := 214) (by decide +kernel)
theorem tw_215 : Cond.instanceMethod yX0_init ∈ gw := tw_mk 215 (by decide +kernel) rfl
theorem tw_216 : Cond.code yX0_init cX0_init 1 none ∈ gw := tw_mk 216 (by decide +kernel) rfl
theorem tw_217 : Cond.methodLink RX0 1 objectInit ∈ gw := tw_mk 217 (by decide +kernel) rfl
theorem tw_218 : Cond.fieldLink RX0 11 "VowRope$Acts" "states" "[I" ∈ gw := tw_mk 218 (by decide +kernel) rfl
theorem tw_219 : Cond.fieldLink RX0 15 "VowRope$Acts" "nextSlot" "I" ∈ gw := tw_mk 219 (by decide +kernel) rfl
theorem tw_220 : Cond.fieldLink RX0 19 "VowRope$Acts" "kept" "I" ∈ gw := tw_mk 220 (by decide +kernel) rfl
theorem tw_221 : Cond.fieldLink RX10 208 "VowRope$Acts" "kept" "I" ∈ gw := tw_mk 221 (by decide +kernel) rfl
theorem tw_229 : Cond.classLink RX10 44 "VowRope$Best" ∈ gw := tw_mk 229 (by decide +kernel) rfl
theorem tw_230 : Cond.instantiable RX2 7 ∈ gw := tw_mk 230 (by decide +kernel) rfl
theorem tw_231 : Cond.methodLinkNest RX10 46 yX2_init "VowRope" ∈ lw_tbl := List.mem_of_getElem? (i := 231) (by decide +kernel)
theorem tw_232 : Cond.instanceMethod yX2_init ∈ gw := tw_mk 232 (by decide +kernel) rfl
theorem tw_233 : Cond.code yX2_init cX2_init 1 none ∈ gw := tw_mk 233 (by decide +kernel) rfl
theorem tw_234 : Cond.methodLink RX2 3 objectInit ∈ gw := tw_mk 234 (by decide +kernel) rfl
theorem tw_235 : Cond.fieldLink RX2 9 "VowRope$Best" "strengths" "[I" ∈ gw := tw_mk 235 (by decide +kernel) rfl
theorem tw_236 : Cond.fieldLink RX2 15 "VowRope$Best" "behind" "[I" ∈ gw := tw_mk 236 (by decide +kernel) rfl
theorem tw_237 : Cond.fieldLink RX2 18 "VowRope$Best" "sums" "[I" ∈ gw := tw_mk 237 (by decide +kernel) rfl
theorem tw_238 : Cond.fieldLink RX2 21 "VowRope$Best" "trial" "[I" ∈ gw := tw_mk 238 (by decide +kernel) rfl
theorem tw_239 : Cond.fieldLink RX2 24 "VowRope$Best" "yarns" "I" ∈ gw := tw_mk 239 (by decide +kernel) rfl
theorem tw_240 : Cond.fieldLink RX2 28 "VowRope$Best" "strands" "[I" ∈ gw := tw_mk 240 (by decide +kernel) rfl
theorem tw_241 : Cond.fieldLink RX10 229 "VowRope$Best" "strands" "[I" ∈ gw := tw_mk 241 (by decide +kernel) rfl
theorem tw_242 : Cond.fieldLink RX2 31 "VowRope$Best" "least" "I" ∈ gw := tw_mk 242 (by decide +kernel) rfl
theorem tw_243 : Cond.fieldLink RX10 226 "VowRope$Best" "least" "I" ∈ gw := tw_mk 243 (by decide +kernel) rfl
theorem tw_259 : Cond.classLink RX10 51 "VowRope$Cheapest" ∈ gw := tw_mk 259 (by decide +kernel) rfl
theorem tw_260 : Cond.instantiable RX3 2 ∈ gw := tw_mk 260 (by decide +kernel) rfl
theorem tw_261 : Cond.methodLinkNest RX10 53 yX3_init "VowRope" ∈ lw_tbl := List.mem_of_getElem? (i := 261) (by decide +kernel)
theorem tw_262 : Cond.instanceMethod yX3_init ∈ gw := tw_mk 262 (by decide +kernel) rfl
theorem tw_263 : Cond.code yX3_init cX3_init 1 none ∈ gw := tw_mk 263 (by decide +kernel) rfl
theorem tw_264 : Cond.methodLink RX3 3 objectInit ∈ gw := tw_mk 264 (by decide +kernel) rfl
theorem tw_265 : Cond.fieldLink RX3 9 "VowRope$Cheapest" "strengths" "[I" ∈ gw := tw_mk 265 (by decide +kernel) rfl
theorem tw_266 : Cond.fieldLink RX3 15 "VowRope$Cheapest" "filled" "[I" ∈ gw := tw_mk 266 (by decide +kernel) rfl
theorem tw_272 : Cond.classLink RX10 58 "VowRope$Odds" ∈ gw := tw_mk 272 (by decide +kernel) rfl
theorem tw_273 : Cond.instantiable RX5 4 ∈ gw := tw_mk 273 (by decide +kernel) rfl
theorem tw_274 : Cond.methodLinkNest RX10 60 yX5_init "VowRope" ∈ lw_tbl := List.mem_of_getElem? (i := 274) (by decide +kernel)
theorem tw_275 : Cond.instanceMethod yX5_init ∈ gw := tw_mk 275 (by decide +kernel) rfl
theorem tw_276 : Cond.code yX5_init cX5_init 1 none ∈ gw := tw_mk 276 (by decide +kernel) rfl
theorem tw_277 : Cond.methodLink RX5 3 objectInit ∈ gw := tw_mk 277 (by decide +kernel) rfl
theorem tw_278 : Cond.fieldLink RX5 9 "VowRope$Odds" "sums" "[I" ∈ gw := tw_mk 278 (by decide +kernel) rfl
theorem tw_279 : Cond.fieldLink RX5 15 "VowRope$Odds" "need" "I" ∈ gw := tw_mk 279 (by decide +kernel) rfl
theorem tw_280 : Cond.fieldLink RX5 19 "VowRope$Odds" "above" "I" ∈ gw := tw_mk 280 (by decide +kernel) rfl
theorem tw_281 : Cond.fieldLink RX10 242 "VowRope$Odds" "above" "I" ∈ gw := tw_mk 281 (by decide +kernel) rfl
theorem tw_282 : Cond.fieldLink RX5 22 "VowRope$Odds" "below" "I" ∈ gw := tw_mk 282 (by decide +kernel) rfl
theorem tw_283 : Cond.fieldLink RX10 245 "VowRope$Odds" "below" "I" ∈ gw := tw_mk 283 (by decide +kernel) rfl
theorem tw_293 : Cond.classLink RX10 65 "VowRope$Asks" ∈ gw := tw_mk 293 (by decide +kernel) rfl
theorem tw_294 : Cond.instantiable RX1 2 ∈ gw := tw_mk 294 (by decide +kernel) rfl
theorem tw_295 : Cond.methodLinkNest RX10 67 yX1_init "VowRope" ∈ lw_tbl := List.mem_of_getElem? (i := 295) (by decide +kernel)
theorem tw_296 : Cond.instanceMethod yX1_init ∈ gw := tw_mk 296 (by decide +kernel) rfl
theorem tw_297 : Cond.code yX1_init cX1_init 1 none ∈ gw := tw_mk 297 (by decide +kernel) rfl
theorem tw_298 : Cond.methodLink RX1 1 objectInit ∈ gw := tw_mk 298 (by decide +kernel) rfl
theorem tw_299 : Cond.fieldLink RX1 9 "VowRope$Asks" "begun" "[I" ∈ gw := tw_mk 299 (by decide +kernel) rfl
theorem tw_300 : Cond.fieldLink RX10 280 "VowRope$Asks" "begun" "[I" ∈ gw := tw_mk 300 (by decide +kernel) rfl
theorem tw_301 : Cond.fieldLink RX1 13 "VowRope$Asks" "traced" "I" ∈ gw := tw_mk 301 (by decide +kernel) rfl
theorem tw_302 : Cond.fieldLink RX10 277 "VowRope$Asks" "traced" "I" ∈ gw := tw_mk 302 (by decide +kernel) rfl
theorem tw_308 : Cond.fieldLink RX10 10 "VowRope" "rows" "LVowRope$Rows;" ∈ gw := tw_mk 308 (by decide +kernel) rfl
theorem tw_309 : Cond.fieldLink RX10 19 "VowRope" "reader" "LVowRope$Reader;" ∈ gw := tw_mk 309 (by decide +kernel) rfl
theorem tw_310 : Cond.fieldLink RX10 26 "VowRope" "now" "LVowRope$Walk;" ∈ gw := tw_mk 310 (by decide +kernel) rfl
theorem tw_311 : Cond.fieldLink RX10 30 "VowRope" "spare" "LVowRope$Walk;" ∈ gw := tw_mk 311 (by decide +kernel) rfl
theorem tw_312 : Cond.fieldLink RX10 33 "VowRope" "images" "[LVowRope$Walk;" ∈ gw := tw_mk 312 (by decide +kernel) rfl
theorem tw_313 : Cond.fieldLink RX10 40 "VowRope" "acts" "LVowRope$Acts;" ∈ gw := tw_mk 313 (by decide +kernel) rfl
theorem tw_314 : Cond.fieldLink RX10 47 "VowRope" "bestLaying" "LVowRope$Best;" ∈ gw := tw_mk 314 (by decide +kernel) rfl
theorem tw_315 : Cond.fieldLink RX10 54 "VowRope" "cheapestSet" "LVowRope$Cheapest;" ∈ gw := tw_mk 315 (by decide +kernel) rfl
theorem tw_316 : Cond.fieldLink RX10 61 "VowRope" "yearOdds" "LVowRope$Odds;" ∈ gw := tw_mk 316 (by decide +kernel) rfl
theorem tw_317 : Cond.fieldLink RX10 68 "VowRope" "asks" "LVowRope$Asks;" ∈ gw := tw_mk 317 (by decide +kernel) rfl
theorem tw_318 : Cond.fieldLink RX10 72 "VowRope" "latestFault" "I" ∈ gw := tw_mk 318 (by decide +kernel) rfl
theorem tw_319 : Cond.fieldLink RX10 76 "VowRope" "latestFinding" "I" ∈ gw := tw_mk 319 (by decide +kernel) rfl
theorem tw_345 : Cond.methodLink RL 13 yX10_row ∈ gw := tw_mk 345 (by decide +kernel) rfl
theorem tw_346 : Cond.instanceMethod yX10_row ∈ gw := tw_mk 346 (by decide +kernel) rfl
theorem tw_347 : Cond.selects RX10 yX10_row yX10_row ∈ gw := tw_mk 347 (by decide +kernel) rfl
theorem tw_348 : Cond.code yX10_row cX10_row 4 (some .int) ∈ gw := tw_mk 348 (by decide +kernel) rfl
theorem tw_349 : Cond.methodLink RX10 79 yX7_isNumber ∈ gw := tw_mk 349 (by decide +kernel) rfl
theorem tw_350 : Cond.instanceMethod yX7_isNumber ∈ gw := tw_mk 350 (by decide +kernel) rfl
theorem tw_351 : Cond.selects RX7 yX7_isNumber yX7_isNumber ∈ gw := tw_mk 351 (by decide +kernel) rfl
theorem tw_352 : Cond.code yX7_isNumber cX7_isNumber 2 (some .boolean) ∈ gw := tw_mk 352 (by decide +kernel) rfl
theorem tw_353 : Cond.constant RX10 83 (-1000001) ∈ gw := tw_mk 353 (by decide +kernel) rfl
theorem tw_354 : Cond.methodLink RX10 84 yX10_found ∈ gw := tw_mk 354 (by decide +kernel) rfl
theorem tw_356 : Cond.instanceMethod yX10_found ∈ gw := tw_mk 356 (by decide +kernel) rfl
theorem tw_357 : Cond.code yX10_found cX10_found 2 (some .int) ∈ gw := tw_mk 357 (by decide +kernel) rfl
theorem tw_358 : Cond.constant RX10 292 (-1000010) ∈ gw := tw_mk 358 (by decide +kernel) rfl
theorem tw_359 : Cond.methodLink RX10 88 yX7_make ∈ gw := tw_mk 359 (by decide +kernel) rfl
theorem tw_360 : Cond.instanceMethod yX7_make ∈ gw := tw_mk 360 (by decide +kernel) rfl
theorem tw_361 : Cond.selects RX7 yX7_make yX7_make ∈ gw := tw_mk 361 (by decide +kernel) rfl
theorem tw_362 : Cond.code yX7_make cX7_make 5 none ∈ gw := tw_mk 362 (by decide +kernel) rfl
theorem tw_363 : Cond.methodLink RX10 92 yX10_foundNothing ∈ gw := tw_mk 363 (by decide +kernel) rfl
theorem tw_365 : Cond.instanceMethod yX10_foundNothing ∈ gw := tw_mk 365 (by decide +kernel) rfl
theorem tw_366 : Cond.code yX10_foundNothing cX10_foundNothing 2 (some .int) ∈ gw := tw_mk 366 (by decide +kernel) rfl
theorem tw_367 : Cond.methodLink RL 18 yX10_set ∈ gw := tw_mk 367 (by decide +kernel) rfl
theorem tw_368 : Cond.instanceMethod yX10_set ∈ gw := tw_mk 368 (by decide +kernel) rfl
theorem tw_369 : Cond.selects RX10 yX10_set yX10_set ∈ gw := tw_mk 369 (by decide +kernel) rfl
theorem tw_370 : Cond.code yX10_set cX10_set 4 (some .int) ∈ gw := tw_mk 370 (by decide +kernel) rfl
theorem tw_371 : Cond.methodLink RX10 95 yX7_isMissing ∈ gw := tw_mk 371 (by decide +kernel) rfl
theorem tw_372 : Cond.instanceMethod yX7_isMissing ∈ gw := tw_mk 372 (by decide +kernel) rfl
theorem tw_373 : Cond.selects RX7 yX7_isMissing yX7_isMissing ∈ gw := tw_mk 373 (by decide +kernel) rfl
theorem tw_374 : Cond.code yX7_isMissing cX7_isMissing 2 (some .boolean) ∈ gw := tw_mk 374 (by decide +kernel) rfl
theorem tw_375 : Cond.methodLink RX10 98 yX7_hasPlaces ∈ gw := tw_mk 375 (by decide +kernel) rfl
theorem tw_376 : Cond.instanceMethod yX7_hasPlaces ∈ gw := tw_mk 376 (by decide +kernel) rfl
theorem tw_377 : Cond.selects RX7 yX7_hasPlaces yX7_hasPlaces ∈ gw := tw_mk 377 (by decide +kernel) rfl
theorem tw_378 : Cond.code yX7_hasPlaces cX7_hasPlaces 4 (some .boolean) ∈ gw := tw_mk 378 (by decide +kernel) rfl
theorem tw_379 : Cond.methodLink RX10 102 yX7_put ∈ gw := tw_mk 379 (by decide +kernel) rfl
theorem tw_380 : Cond.instanceMethod yX7_put ∈ gw := tw_mk 380 (by decide +kernel) rfl
theorem tw_381 : Cond.selects RX7 yX7_put yX7_put ∈ gw := tw_mk 381 (by decide +kernel) rfl
theorem tw_382 : Cond.code yX7_put cX7_put 5 (some .int) ∈ gw := tw_mk 382 (by decide +kernel) rfl
theorem tw_383 : Cond.methodLink RL 22 yX10_copy ∈ gw := tw_mk 383 (by decide +kernel) rfl
theorem tw_384 : Cond.instanceMethod yX10_copy ∈ gw := tw_mk 384 (by decide +kernel) rfl
theorem tw_385 : Cond.selects RX10 yX10_copy yX10_copy ∈ gw := tw_mk 385 (by decide +kernel) rfl
theorem tw_386 : Cond.code yX10_copy cX10_copy 6 (some .int) ∈ gw := tw_mk 386 (by decide +kernel) rfl
theorem tw_387 : Cond.methodLink RX10 106 yX7_laneOf ∈ gw := tw_mk 387 (by decide +kernel) rfl
theorem tw_388 : Cond.instanceMethod yX7_laneOf ∈ gw := tw_mk 388 (by decide +kernel) rfl
theorem tw_389 : Cond.selects RX7 yX7_laneOf yX7_laneOf ∈ gw := tw_mk 389 (by decide +kernel) rfl
theorem tw_390 : Cond.code yX7_laneOf cX7_laneOf 2 (some .int) ∈ gw := tw_mk 390 (by decide +kernel) rfl
theorem tw_391 : Cond.methodLink RX10 109 yX7_move ∈ gw := tw_mk 391 (by decide +kernel) rfl
theorem tw_392 : Cond.instanceMethod yX7_move ∈ gw := tw_mk 392 (by decide +kernel) rfl
theorem tw_393 : Cond.selects RX7 yX7_move yX7_move ∈ gw := tw_mk 393 (by decide +kernel) rfl
theorem tw_394 : Cond.code yX7_move cX7_move 6 none ∈ gw := tw_mk 394 (by decide +kernel) rfl
theorem tw_395 : Cond.methodLink RX7 19 arraycopyName ∈ gw := tw_mk 395 (by decide +kernel) rfl
theorem tw_396 : Cond.static arraycopyName ∈ gw := tw_mk 396 (by decide +kernel) rfl
theorem tw_397 : Cond.native arraycopyName ∈ gw := tw_mk 397 (by decide +kernel) rfl
theorem tw_398 : Cond.methodLink RL 27 yX10_drop ∈ gw := tw_mk 398 (by decide +kernel) rfl
theorem tw_399 : Cond.instanceMethod yX10_drop ∈ gw := tw_mk 399 (by decide +kernel) rfl
theorem tw_400 : Cond.selects RX10 yX10_drop yX10_drop ∈ gw := tw_mk 400 (by decide +kernel) rfl
theorem tw_401 : Cond.code yX10_drop cX10_drop 3 (some .int) ∈ gw := tw_mk 401 (by decide +kernel) rfl
theorem tw_402 : Cond.methodLink RX10 113 yX7_sizeOf ∈ gw := tw_mk 402 (by decide +kernel) rfl
theorem tw_403 : Cond.instanceMethod yX7_sizeOf ∈ gw := tw_mk 403 (by decide +kernel) rfl
theorem tw_404 : Cond.selects RX7 yX7_sizeOf yX7_sizeOf ∈ gw := tw_mk 404 (by decide +kernel) rfl
theorem tw_405 : Cond.code yX7_sizeOf cX7_sizeOf 2 (some .int) ∈ gw := tw_mk 405 (by decide +kernel) rfl
theorem tw_406 : Cond.methodLink RX10 116 yX7_remove ∈ gw := tw_mk 406 (by decide +kernel) rfl
theorem tw_407 : Cond.instanceMethod yX7_remove ∈ gw := tw_mk 407 (by decide +kernel) rfl
theorem tw_408 : Cond.selects RX7 yX7_remove yX7_remove ∈ gw := tw_mk 408 (by decide +kernel) rfl
theorem tw_409 : Cond.code yX7_remove cX7_remove 2 none ∈ gw := tw_mk 409 (by decide +kernel) rfl
theorem tw_410 : Cond.methodLink RL 34 yX10_feed ∈ gw := tw_mk 410 (by decide +kernel) rfl
theorem tw_411 : Cond.instanceMethod yX10_feed ∈ gw := tw_mk 411 (by decide +kernel) rfl
theorem tw_412 : Cond.selects RX10 yX10_feed yX10_feed ∈ gw := tw_mk 412 (by decide +kernel) rfl
theorem tw_413 : Cond.code yX10_feed cX10_feed 5 (some .int) ∈ gw := tw_mk 413 (by decide +kernel) rfl
theorem tw_414 : Cond.methodLink RX10 124 yX8_hasRoom ∈ gw := tw_mk 414 (by decide +kernel) rfl
theorem tw_415 : Cond.instanceMethod yX8_hasRoom ∈ gw := tw_mk 415 (by decide +kernel) rfl
theorem tw_416 : Cond.selects RX8 yX8_hasRoom yX8_hasRoom ∈ gw := tw_mk 416 (by decide +kernel) rfl
theorem tw_417 : Cond.code yX8_hasRoom cX8_hasRoom 2 (some .boolean) ∈ gw := tw_mk 417 (by decide +kernel) rfl
theorem tw_418 : Cond.constant RX10 129 (-1000003) ∈ gw := tw_mk 418 (by decide +kernel) rfl
theorem tw_419 : Cond.methodLink RX10 130 yX8_add ∈ gw := tw_mk 419 (by decide +kernel) rfl
theorem tw_420 : Cond.instanceMethod yX8_add ∈ gw := tw_mk 420 (by decide +kernel) rfl
theorem tw_421 : Cond.selects RX8 yX8_add yX8_add ∈ gw := tw_mk 421 (by decide +kernel) rfl
theorem tw_422 : Cond.code yX8_add cX8_add 2 none ∈ gw := tw_mk 422 (by decide +kernel) rfl
theorem tw_423 : Cond.methodLink RL 39 yX10_walk ∈ gw := tw_mk 423 (by decide +kernel) rfl
theorem tw_424 : Cond.instanceMethod yX10_walk ∈ gw := tw_mk 424 (by decide +kernel) rfl
theorem tw_425 : Cond.selects RX10 yX10_walk yX10_walk ∈ gw := tw_mk 425 (by decide +kernel) rfl
theorem tw_426 : Cond.code yX10_walk cX10_walk 1 (some .int) ∈ gw := tw_mk 426 (by decide +kernel) rfl
theorem tw_427 : Cond.methodLink RX10 137 yX6_readInto ∈ gw := tw_mk 427 (by decide +kernel) rfl
theorem tw_428 : Cond.instanceMethod yX6_readInto ∈ gw := tw_mk 428 (by decide +kernel) rfl
theorem tw_429 : Cond.selects RX6 yX6_readInto yX6_readInto ∈ gw := tw_mk 429 (by decide +kernel) rfl
theorem tw_430 : Cond.code yX6_readInto cX6_readInto 3 none ∈ gw := tw_mk 430 (by decide +kernel) rfl
theorem tw_431 : Cond.methodLink RX6 22 yX9_begin ∈ gw := tw_mk 431 (by decide +kernel) rfl
theorem tw_432 : Cond.instanceMethod yX9_begin ∈ gw := tw_mk 432 (by decide +kernel) rfl
theorem tw_433 : Cond.selects RX9 yX9_begin yX9_begin ∈ gw := tw_mk 433 (by decide +kernel) rfl
theorem tw_434 : Cond.code yX9_begin cX9_begin 2 none ∈ gw := tw_mk 434 (by decide +kernel) rfl
theorem tw_435 : Cond.methodLink RX6 27 yX8_rewind ∈ gw := tw_mk 435 (by decide +kernel) rfl
theorem tw_436 : Cond.instanceMethod yX8_rewind ∈ gw := tw_mk 436 (by decide +kernel) rfl
theorem tw_437 : Cond.selects RX8 yX8_rewind yX8_rewind ∈ gw := tw_mk 437 (by decide +kernel) rfl
theorem tw_438 : Cond.code yX8_rewind cX8_rewind 1 none ∈ gw := tw_mk 438 (by decide +kernel) rfl
theorem tw_439 : Cond.methodLink RX8 29 yX8_next ∈ gw := tw_mk 439 (by decide +kernel) rfl
theorem tw_440 : Cond.instanceMethod yX8_next ∈ gw := tw_mk 440 (by decide +kernel) rfl
theorem tw_441 : Cond.selects RX8 yX8_next yX8_next ∈ gw := tw_mk 441 (by decide +kernel) rfl
theorem tw_442 : Cond.code yX8_next cX8_next 1 none ∈ gw := tw_mk 442 (by decide +kernel) rfl
theorem tw_443 : Cond.methodLink RX8 32 yX8_isBlank ∈ gw := tw_mk 443 (by decide +kernel) rfl
theorem tw_444 : Cond.static yX8_isBlank ∈ gw := tw_mk 444 (by decide +kernel) rfl
theorem tw_445 : Cond.code yX8_isBlank cX8_isBlank 1 (some .boolean) ∈ gw := tw_mk 445 (by decide +kernel) rfl
theorem tw_446 : Cond.methodLink RX8 36 yX8_isLetter ∈ gw := tw_mk 446 (by decide +kernel) rfl
theorem tw_447 : Cond.static yX8_isLetter ∈ gw := tw_mk 447 (by decide +kernel) rfl
theorem tw_448 : Cond.code yX8_isLetter cX8_isLetter 1 (some .boolean) ∈ gw := tw_mk 448 (by decide +kernel) rfl
theorem tw_449 : Cond.methodLink RX8 39 yX8_takeName ∈ gw := tw_mk 449 (by decide +kernel) rfl
theorem tw_451 : Cond.instanceMethod yX8_takeName ∈ gw := tw_mk 451 (by decide +kernel) rfl
theorem tw_452 : Cond.code yX8_takeName cX8_takeName 1 none ∈ gw := tw_mk 452 (by decide +kernel) rfl
theorem tw_453 : Cond.methodLink RX8 42 yX8_isFigure ∈ gw := tw_mk 453 (by decide +kernel) rfl
theorem tw_454 : Cond.static yX8_isFigure ∈ gw := tw_mk 454 (by decide +kernel) rfl
theorem tw_455 : Cond.code yX8_isFigure cX8_isFigure 1 (some .boolean) ∈ gw := tw_mk 455 (by decide +kernel) rfl
theorem tw_456 : Cond.methodLink RX8 45 yX8_takeNumber ∈ gw := tw_mk 456 (by decide +kernel) rfl
theorem tw_458 : Cond.instanceMethod yX8_takeNumber ∈ gw := tw_mk 458 (by decide +kernel) rfl
theorem tw_459 : Cond.code yX8_takeNumber cX8_takeNumber 1 none ∈ gw := tw_mk 459 (by decide +kernel) rfl
theorem tw_460 : Cond.methodLink RX6 30 yX6_readLaw ∈ gw := tw_mk 460 (by decide +kernel) rfl
theorem tw_462 : Cond.instanceMethod yX6_readLaw ∈ gw := tw_mk 462 (by decide +kernel) rfl
theorem tw_463 : Cond.code yX6_readLaw cX6_readLaw 2 none ∈ gw := tw_mk 463 (by decide +kernel) rfl
theorem tw_464 : Cond.stringRef RX6 51 "law" ∈ lw_tbl := List.mem_of_getElem? (i := 464) (by decide +kernel)
theorem tw_465 : Cond.methodLink RX6 36 yX8_isWord ∈ gw := tw_mk 465 (by decide +kernel) rfl
theorem tw_466 : Cond.instanceMethod yX8_isWord ∈ gw := tw_mk 466 (by decide +kernel) rfl
theorem tw_467 : Cond.selects RX8 yX8_isWord yX8_isWord ∈ gw := tw_mk 467 (by decide +kernel) rfl
theorem tw_468 : Cond.code yX8_isWord cX8_isWord 3 (some .boolean) ∈ gw := tw_mk 468 (by decide +kernel) rfl
theorem tw_469 : Cond.methodLink RX8 48 yJ0_length_8abf5 ∈ gw := tw_mk 469 (by decide +kernel) rfl
theorem tw_470 : Cond.instanceMethod yJ0_length_8abf5 ∈ gw := tw_mk 470 (by decide +kernel) rfl
theorem tw_471 : Cond.selects RJ0 yJ0_length_8abf5 yJ0_length_8abf5 ∈ gw := tw_mk 471 (by decide +kernel) rfl
theorem tw_472 : Cond.code yJ0_length_8abf5 cJ0_length_8abf5 1 (some .int) ∈ gw := tw_mk 472 (by decide +kernel) rfl
theorem tw_473 : Cond.methodLink RJ0 335 yJ0_coder_7d493 ∈ gw := tw_mk 473 (by decide +kernel) rfl
theorem tw_474 : Cond.instanceMethod yJ0_coder_7d493 ∈ gw := tw_mk 474 (by decide +kernel) rfl
theorem tw_475 : Cond.selects RJ0 yJ0_coder_7d493 yJ0_coder_7d493 ∈ gw := tw_mk 475 (by decide +kernel) rfl
theorem tw_476 : Cond.code yJ0_coder_7d493 cJ0_coder_7d493 1 (some .byte) ∈ gw := tw_mk 476 (by decide +kernel) rfl
theorem tw_477 : Cond.fieldLink RJ0 38 "java/lang/String" "COMPACT_STRINGS" "Z" ∈ gw := tw_mk 477 (by decide +kernel) rfl
theorem tw_479 : Cond.methodLink RX8 53 yJ0_charAt_5068e ∈ gw := tw_mk 479 (by decide +kernel) rfl
theorem tw_480 : Cond.instanceMethod yJ0_charAt_5068e ∈ gw := tw_mk 480 (by decide +kernel) rfl
theorem tw_481 : Cond.selects RJ0 yJ0_charAt_5068e yJ0_charAt_5068e ∈ gw := tw_mk 481 (by decide +kernel) rfl
theorem tw_482 : Cond.code yJ0_charAt_5068e cJ0_charAt_5068e 2 (some .char) ∈ gw := tw_mk 482 (by decide +kernel) rfl
theorem tw_483 : Cond.methodLink RJ0 492 yJ0_isLatin1_aae02 ∈ gw := tw_mk 483 (by decide +kernel) rfl
theorem tw_484 : Cond.instanceMethod yJ0_isLatin1_aae02 ∈ gw := tw_mk 484 (by decide +kernel) rfl
theorem tw_485 : Cond.selects RJ0 yJ0_isLatin1_aae02 yJ0_isLatin1_aae02 ∈ gw := tw_mk 485 (by decide +kernel) rfl
theorem tw_486 : Cond.code yJ0_isLatin1_aae02 cJ0_isLatin1_aae02 1 (some .boolean) ∈ gw := tw_mk 486 (by decide +kernel) rfl
theorem tw_487 : Cond.methodLink RJ0 495 yJ1_charAt_3b067 ∈ gw := tw_mk 487 (by decide +kernel) rfl
theorem tw_488 : Cond.static yJ1_charAt_3b067 ∈ gw := tw_mk 488 (by decide +kernel) rfl
theorem tw_489 : Cond.code yJ1_charAt_3b067 cJ1_charAt_3b067 2 (some .char) ∈ gw := tw_mk 489 (by decide +kernel) rfl
theorem tw_490 : Cond.methodLink RJ1 9 yJ0_checkIndex_df160 ∈ gw := tw_mk 490 (by decide +kernel) rfl
theorem tw_491 : Cond.static yJ0_checkIndex_df160 ∈ gw := tw_mk 491 (by decide +kernel) rfl
theorem tw_492 : Cond.code yJ0_checkIndex_df160 cJ0_checkIndex_df160 2 none ∈ gw := tw_mk 492 (by decide +kernel) rfl
theorem tw_493 : Cond.fieldLink RJ0 1053 "jdk/internal/util/Preconditions" "SIOOBE_FORMATTER" "Ljava/util/function/BiFunction;" ∈ gw := tw_mk 493 (by decide +kernel) rfl
theorem tw_495 : Cond.methodLink RJ0 1059 yJ3_checkIndex_8e157 ∈ gw := tw_mk 495 (by decide +kernel) rfl
theorem tw_496 : Cond.static yJ3_checkIndex_8e157 ∈ gw := tw_mk 496 (by decide +kernel) rfl
theorem tw_497 : Cond.code yJ3_checkIndex_8e157 cJ3_checkIndex_8e157 3 (some .int) ∈ gw := tw_mk 497 (by decide +kernel) rfl
theorem tw_517 : Cond.methodLink RX6 53 yX8_next ∈ gw := tw_mk 517 (by decide +kernel) rfl
theorem tw_518 : Cond.methodLink RX6 56 yX6_takeNumber ∈ gw := tw_mk 518 (by decide +kernel) rfl
theorem tw_520 : Cond.instanceMethod yX6_takeNumber ∈ gw := tw_mk 520 (by decide +kernel) rfl
theorem tw_521 : Cond.code yX6_takeNumber cX6_takeNumber 4 (some .int) ∈ gw := tw_mk 521 (by decide +kernel) rfl
theorem tw_522 : Cond.methodLink RX6 66 yX6_takeSign ∈ gw := tw_mk 522 (by decide +kernel) rfl
theorem tw_524 : Cond.instanceMethod yX6_takeSign ∈ gw := tw_mk 524 (by decide +kernel) rfl
theorem tw_525 : Cond.code yX6_takeSign cX6_takeSign 1 none ∈ gw := tw_mk 525 (by decide +kernel) rfl
theorem tw_526 : Cond.stringRef RX6 34 "speaker" ∈ lw_tbl := List.mem_of_getElem? (i := 526) (by decide +kernel)
theorem tw_527 : Cond.methodLink RX6 40 yX6_readSpeaker ∈ gw := tw_mk 527 (by decide +kernel) rfl
theorem tw_529 : Cond.instanceMethod yX6_readSpeaker ∈ gw := tw_mk 529 (by decide +kernel) rfl
theorem tw_530 : Cond.code yX6_readSpeaker cX6_readSpeaker 2 none ∈ gw := tw_mk 530 (by decide +kernel) rfl
theorem tw_531 : Cond.stringRef RX6 43 "yarn" ∈ lw_tbl := List.mem_of_getElem? (i := 531) (by decide +kernel)
theorem tw_532 : Cond.methodLink RX6 45 yX6_readYarn ∈ gw := tw_mk 532 (by decide +kernel) rfl
theorem tw_534 : Cond.instanceMethod yX6_readYarn ∈ gw := tw_mk 534 (by decide +kernel) rfl
theorem tw_535 : Cond.code yX6_readYarn cX6_readYarn 2 none ∈ gw := tw_mk 535 (by decide +kernel) rfl
theorem tw_536 : Cond.methodLink RX6 85 yX6_takeSort ∈ gw := tw_mk 536 (by decide +kernel) rfl
theorem tw_538 : Cond.instanceMethod yX6_takeSort ∈ gw := tw_mk 538 (by decide +kernel) rfl
theorem tw_539 : Cond.code yX6_takeSort cX6_takeSort 2 (some .int) ∈ gw := tw_mk 539 (by decide +kernel) rfl
theorem tw_540 : Cond.stringRef RX6 94 "vow" ∈ lw_tbl := List.mem_of_getElem? (i := 540) (by decide +kernel)
theorem tw_541 : Cond.stringRef RX6 98 "oath" ∈ lw_tbl := List.mem_of_getElem? (i := 541) (by decide +kernel)
theorem tw_542 : Cond.stringRef RX6 100 "debt" ∈ lw_tbl := List.mem_of_getElem? (i := 542) (by decide +kernel)
theorem tw_543 : Cond.stringRef RX6 102 "lie" ∈ lw_tbl := List.mem_of_getElem? (i := 543) (by decide +kernel)
theorem tw_544 : Cond.stringRef RX6 104 "hope" ∈ lw_tbl := List.mem_of_getElem? (i := 544) (by decide +kernel)
theorem tw_545 : Cond.constant RX10 143 (-1000100) ∈ gw := tw_mk 545 (by decide +kernel) rfl
theorem tw_546 : Cond.methodLink RX10 147 yX9_becomeAs ∈ gw := tw_mk 546 (by decide +kernel) rfl
theorem tw_547 : Cond.instanceMethod yX9_becomeAs ∈ gw := tw_mk 547 (by decide +kernel) rfl
theorem tw_548 : Cond.selects RX9 yX9_becomeAs yX9_becomeAs ∈ gw := tw_mk 548 (by decide +kernel) rfl
theorem tw_549 : Cond.code yX9_becomeAs cX9_becomeAs 2 none ∈ gw := tw_mk 549 (by decide +kernel) rfl
theorem tw_550 : Cond.methodLink RX9 47 arraycopyName ∈ gw := tw_mk 550 (by decide +kernel) rfl
theorem tw_551 : Cond.methodLink RX10 150 yX0_forgetAll ∈ gw := tw_mk 551 (by decide +kernel) rfl
theorem tw_552 : Cond.instanceMethod yX0_forgetAll ∈ gw := tw_mk 552 (by decide +kernel) rfl
theorem tw_553 : Cond.selects RX0 yX0_forgetAll yX0_forgetAll ∈ gw := tw_mk 553 (by decide +kernel) rfl
theorem tw_554 : Cond.code yX0_forgetAll cX0_forgetAll 1 none ∈ gw := tw_mk 554 (by decide +kernel) rfl
theorem tw_555 : Cond.methodLink RL 44 yX10_fault ∈ gw := tw_mk 555 (by decide +kernel) rfl
theorem tw_556 : Cond.instanceMethod yX10_fault ∈ gw := tw_mk 556 (by decide +kernel) rfl
theorem tw_557 : Cond.selects RX10 yX10_fault yX10_fault ∈ gw := tw_mk 557 (by decide +kernel) rfl
theorem tw_558 : Cond.code yX10_fault cX10_fault 1 (some .int) ∈ gw := tw_mk 558 (by decide +kernel) rfl
theorem tw_559 : Cond.methodLink RL 48 yX10_lay ∈ gw := tw_mk 559 (by decide +kernel) rfl
theorem tw_560 : Cond.instanceMethod yX10_lay ∈ gw := tw_mk 560 (by decide +kernel) rfl
theorem tw_561 : Cond.selects RX10 yX10_lay yX10_lay ∈ gw := tw_mk 561 (by decide +kernel) rfl
theorem tw_562 : Cond.code yX10_lay cX10_lay 4 (some .int) ∈ gw := tw_mk 562 (by decide +kernel) rfl
theorem tw_563 : Cond.methodLink RX10 156 yX9_hasYarn ∈ gw := tw_mk 563 (by decide +kernel) rfl
theorem tw_564 : Cond.instanceMethod yX9_hasYarn ∈ gw := tw_mk 564 (by decide +kernel) rfl
theorem tw_565 : Cond.selects RX9 yX9_hasYarn yX9_hasYarn ∈ gw := tw_mk 565 (by decide +kernel) rfl
theorem tw_566 : Cond.code yX9_hasYarn cX9_hasYarn 2 (some .boolean) ∈ gw := tw_mk 566 (by decide +kernel) rfl
theorem tw_567 : Cond.methodLink RX10 159 yX0_keep ∈ gw := tw_mk 567 (by decide +kernel) rfl
theorem tw_568 : Cond.instanceMethod yX0_keep ∈ gw := tw_mk 568 (by decide +kernel) rfl
theorem tw_569 : Cond.selects RX0 yX0_keep yX0_keep ∈ gw := tw_mk 569 (by decide +kernel) rfl
theorem tw_570 : Cond.code yX0_keep cX0_keep 2 none ∈ gw := tw_mk 570 (by decide +kernel) rfl
theorem tw_571 : Cond.methodLink RX0 25 arraycopyName ∈ gw := tw_mk 571 (by decide +kernel) rfl
theorem tw_572 : Cond.methodLink RX0 31 Lib.Math.min.name ∈ gw := tw_mk 572 (by decide +kernel) rfl
theorem tw_573 : Cond.static Lib.Math.min.name ∈ gw := tw_mk 573 (by decide +kernel) rfl
theorem tw_574 : Cond.code Lib.Math.min.name Lib.Math.min.code 2 (some .int) ∈ gw := tw_mk 574 (by decide +kernel) rfl
theorem tw_575 : Cond.methodLink RL 53 yX10_pitch ∈ gw := tw_mk 575 (by decide +kernel) rfl
theorem tw_576 : Cond.instanceMethod yX10_pitch ∈ gw := tw_mk 576 (by decide +kernel) rfl
theorem tw_577 : Cond.selects RX10 yX10_pitch yX10_pitch ∈ gw := tw_mk 577 (by decide +kernel) rfl
theorem tw_578 : Cond.code yX10_pitch cX10_pitch 2 (some .int) ∈ gw := tw_mk 578 (by decide +kernel) rfl
theorem tw_579 : Cond.constant RX10 166 (-1000002) ∈ gw := tw_mk 579 (by decide +kernel) rfl
theorem tw_580 : Cond.methodLink RX10 167 yX9_strength ∈ gw := tw_mk 580 (by decide +kernel) rfl
theorem tw_581 : Cond.instanceMethod yX9_strength ∈ gw := tw_mk 581 (by decide +kernel) rfl
theorem tw_582 : Cond.selects RX9 yX9_strength yX9_strength ∈ gw := tw_mk 582 (by decide +kernel) rfl
theorem tw_583 : Cond.code yX9_strength cX9_strength 2 (some .int) ∈ gw := tw_mk 583 (by decide +kernel) rfl
theorem tw_584 : Cond.methodLink RX9 53 yX9_strengthIf ∈ gw := tw_mk 584 (by decide +kernel) rfl
theorem tw_585 : Cond.instanceMethod yX9_strengthIf ∈ gw := tw_mk 585 (by decide +kernel) rfl
theorem tw_586 : Cond.selects RX9 yX9_strengthIf yX9_strengthIf ∈ gw := tw_mk 586 (by decide +kernel) rfl
theorem tw_587 : Cond.code yX9_strengthIf cX9_strengthIf 4 (some .int) ∈ gw := tw_mk 587 (by decide +kernel) rfl
theorem tw_588 : Cond.methodLink RX9 59 Lib.Math.max.name ∈ gw := tw_mk 588 (by decide +kernel) rfl
theorem tw_589 : Cond.static Lib.Math.max.name ∈ gw := tw_mk 589 (by decide +kernel) rfl
theorem tw_590 : Cond.code Lib.Math.max.name Lib.Math.max.code 2 (some .int) ∈ gw := tw_mk 590 (by decide +kernel) rfl
theorem tw_591 : Cond.methodLink RL 57 yX10_vow ∈ gw := tw_mk 591 (by decide +kernel) rfl
theorem tw_592 : Cond.instanceMethod yX10_vow ∈ gw := tw_mk 592 (by decide +kernel) rfl
theorem tw_593 : Cond.selects RX10 yX10_vow yX10_vow ∈ gw := tw_mk 593 (by decide +kernel) rfl
theorem tw_594 : Cond.code yX10_vow cX10_vow 4 (some .int) ∈ gw := tw_mk 594 (by decide +kernel) rfl
theorem tw_595 : Cond.methodLink RL 61 yX10_splice ∈ gw := tw_mk 595 (by decide +kernel) rfl
theorem tw_596 : Cond.instanceMethod yX10_splice ∈ gw := tw_mk 596 (by decide +kernel) rfl
theorem tw_597 : Cond.selects RX10 yX10_splice yX10_splice ∈ gw := tw_mk 597 (by decide +kernel) rfl
theorem tw_598 : Cond.code yX10_splice cX10_splice 3 (some .int) ∈ gw := tw_mk 598 (by decide +kernel) rfl
theorem tw_599 : Cond.methodLink RL 65 yX10_pull ∈ gw := tw_mk 599 (by decide +kernel) rfl
theorem tw_600 : Cond.instanceMethod yX10_pull ∈ gw := tw_mk 600 (by decide +kernel) rfl
theorem tw_601 : Cond.selects RX10 yX10_pull yX10_pull ∈ gw := tw_mk 601 (by decide +kernel) rfl
theorem tw_602 : Cond.code yX10_pull cX10_pull 4 (some .int) ∈ gw := tw_mk 602 (by decide +kernel) rfl
theorem tw_603 : Cond.methodLink RX10 174 yX10_isLoad ∈ gw := tw_mk 603 (by decide +kernel) rfl
theorem tw_604 : Cond.static yX10_isLoad ∈ gw := tw_mk 604 (by decide +kernel) rfl
theorem tw_605 : Cond.code yX10_isLoad cX10_isLoad 1 (some .boolean) ∈ gw := tw_mk 605 (by decide +kernel) rfl
theorem tw_606 : Cond.methodLink RX10 177 yX10_isSeed ∈ gw := tw_mk 606 (by decide +kernel) rfl
theorem tw_607 : Cond.static yX10_isSeed ∈ gw := tw_mk 607 (by decide +kernel) rfl
theorem tw_608 : Cond.code yX10_isSeed cX10_isSeed 1 (some .boolean) ∈ gw := tw_mk 608 (by decide +kernel) rfl
theorem tw_609 : Cond.constant RX10 293 (999999) ∈ gw := tw_mk 609 (by decide +kernel) rfl
theorem tw_610 : Cond.methodLink RX10 180 yX10_nextX ∈ gw := tw_mk 610 (by decide +kernel) rfl
theorem tw_611 : Cond.static yX10_nextX ∈ gw := tw_mk 611 (by decide +kernel) rfl
theorem tw_612 : Cond.code yX10_nextX cX10_nextX 1 (some .int) ∈ gw := tw_mk 612 (by decide +kernel) rfl
theorem tw_613 : Cond.constantLong RX10 294 (16807) ∈ gw := tw_mk 613 (by decide +kernel) rfl
theorem tw_614 : Cond.constantLong RX10 296 (2147483647) ∈ gw := tw_mk 614 (by decide +kernel) rfl
theorem tw_615 : Cond.methodLink RX10 183 yX9_ropeBears ∈ gw := tw_mk 615 (by decide +kernel) rfl
theorem tw_616 : Cond.instanceMethod yX9_ropeBears ∈ gw := tw_mk 616 (by decide +kernel) rfl
theorem tw_617 : Cond.selects RX9 yX9_ropeBears yX9_ropeBears ∈ gw := tw_mk 617 (by decide +kernel) rfl
theorem tw_618 : Cond.code yX9_ropeBears cX9_ropeBears 1 (some .int) ∈ gw := tw_mk 618 (by decide +kernel) rfl
theorem tw_619 : Cond.methodLink RX9 67 yX9_ropeBearsWithout ∈ gw := tw_mk 619 (by decide +kernel) rfl
theorem tw_620 : Cond.instanceMethod yX9_ropeBearsWithout ∈ gw := tw_mk 620 (by decide +kernel) rfl
theorem tw_621 : Cond.selects RX9 yX9_ropeBearsWithout yX9_ropeBearsWithout ∈ gw := tw_mk 621 (by decide +kernel) rfl
theorem tw_622 : Cond.code yX9_ropeBearsWithout cX9_ropeBearsWithout 4 (some .int) ∈ gw := tw_mk 622 (by decide +kernel) rfl
theorem tw_623 : Cond.methodLink RX9 64 yX9_strandBearsWithout ∈ gw := tw_mk 623 (by decide +kernel) rfl
theorem tw_625 : Cond.instanceMethod yX9_strandBearsWithout ∈ gw := tw_mk 625 (by decide +kernel) rfl
theorem tw_626 : Cond.code yX9_strandBearsWithout cX9_strandBearsWithout 5 (some .int) ∈ gw := tw_mk 626 (by decide +kernel) rfl
theorem tw_627 : Cond.methodLink RX9 74 yX9_strength ∈ gw := tw_mk 627 (by decide +kernel) rfl
theorem tw_628 : Cond.methodLink RX9 71 Lib.Math.min.name ∈ gw := tw_mk 628 (by decide +kernel) rfl
theorem tw_629 : Cond.methodLink RX10 187 yX9_weakestStrand ∈ gw := tw_mk 629 (by decide +kernel) rfl
theorem tw_630 : Cond.instanceMethod yX9_weakestStrand ∈ gw := tw_mk 630 (by decide +kernel) rfl
theorem tw_631 : Cond.selects RX9 yX9_weakestStrand yX9_weakestStrand ∈ gw := tw_mk 631 (by decide +kernel) rfl
theorem tw_632 : Cond.code yX9_weakestStrand cX9_weakestStrand 3 (some .int) ∈ gw := tw_mk 632 (by decide +kernel) rfl
theorem tw_633 : Cond.methodLink RX9 77 yX9_strandBears ∈ gw := tw_mk 633 (by decide +kernel) rfl
theorem tw_634 : Cond.instanceMethod yX9_strandBears ∈ gw := tw_mk 634 (by decide +kernel) rfl
theorem tw_635 : Cond.selects RX9 yX9_strandBears yX9_strandBears ∈ gw := tw_mk 635 (by decide +kernel) rfl
theorem tw_636 : Cond.code yX9_strandBears cX9_strandBears 2 (some .int) ∈ gw := tw_mk 636 (by decide +kernel) rfl
theorem tw_637 : Cond.methodLink RX10 190 yX9_part ∈ gw := tw_mk 637 (by decide +kernel) rfl
theorem tw_638 : Cond.instanceMethod yX9_part ∈ gw := tw_mk 638 (by decide +kernel) rfl
theorem tw_639 : Cond.selects RX9 yX9_part yX9_part ∈ gw := tw_mk 639 (by decide +kernel) rfl
theorem tw_640 : Cond.code yX9_part cX9_part 3 none ∈ gw := tw_mk 640 (by decide +kernel) rfl
theorem tw_641 : Cond.methodLink RX10 193 yX9_wearLaid ∈ gw := tw_mk 641 (by decide +kernel) rfl
theorem tw_642 : Cond.instanceMethod yX9_wearLaid ∈ gw := tw_mk 642 (by decide +kernel) rfl
theorem tw_643 : Cond.selects RX9 yX9_wearLaid yX9_wearLaid ∈ gw := tw_mk 643 (by decide +kernel) rfl
theorem tw_644 : Cond.code yX9_wearLaid cX9_wearLaid 2 none ∈ gw := tw_mk 644 (by decide +kernel) rfl
theorem tw_645 : Cond.methodLink RX9 80 yX9_isLaid ∈ gw := tw_mk 645 (by decide +kernel) rfl
theorem tw_646 : Cond.instanceMethod yX9_isLaid ∈ gw := tw_mk 646 (by decide +kernel) rfl
theorem tw_647 : Cond.selects RX9 yX9_isLaid yX9_isLaid ∈ gw := tw_mk 647 (by decide +kernel) rfl
theorem tw_648 : Cond.code yX9_isLaid cX9_isLaid 2 (some .boolean) ∈ gw := tw_mk 648 (by decide +kernel) rfl
theorem tw_649 : Cond.constant RX10 196 (-1000000) ∈ gw := tw_mk 649 (by decide +kernel) rfl
theorem tw_650 : Cond.methodLink RL 69 yX10_year ∈ gw := tw_mk 650 (by decide +kernel) rfl
theorem tw_651 : Cond.instanceMethod yX10_year ∈ gw := tw_mk 651 (by decide +kernel) rfl
theorem tw_652 : Cond.selects RX10 yX10_year yX10_year ∈ gw := tw_mk 652 (by decide +kernel) rfl
theorem tw_653 : Cond.code yX10_year cX10_year 6 (some .int) ∈ gw := tw_mk 653 (by decide +kernel) rfl
theorem tw_654 : Cond.methodLink RX10 202 yX9_isDrawn ∈ gw := tw_mk 654 (by decide +kernel) rfl
theorem tw_655 : Cond.instanceMethod yX9_isDrawn ∈ gw := tw_mk 655 (by decide +kernel) rfl
theorem tw_656 : Cond.selects RX9 yX9_isDrawn yX9_isDrawn ∈ gw := tw_mk 656 (by decide +kernel) rfl
theorem tw_657 : Cond.code yX9_isDrawn cX9_isDrawn 2 (some .boolean) ∈ gw := tw_mk 657 (by decide +kernel) rfl
theorem tw_658 : Cond.methodLink RX10 205 yX9_keptInTen ∈ gw := tw_mk 658 (by decide +kernel) rfl
theorem tw_659 : Cond.instanceMethod yX9_keptInTen ∈ gw := tw_mk 659 (by decide +kernel) rfl
theorem tw_660 : Cond.selects RX9 yX9_keptInTen yX9_keptInTen ∈ gw := tw_mk 660 (by decide +kernel) rfl
theorem tw_661 : Cond.code yX9_keptInTen cX9_keptInTen 2 (some .int) ∈ gw := tw_mk 661 (by decide +kernel) rfl
theorem tw_662 : Cond.methodLink RL 73 yX10_undo ∈ gw := tw_mk 662 (by decide +kernel) rfl
theorem tw_663 : Cond.instanceMethod yX10_undo ∈ gw := tw_mk 663 (by decide +kernel) rfl
theorem tw_664 : Cond.selects RX10 yX10_undo yX10_undo ∈ gw := tw_mk 664 (by decide +kernel) rfl
theorem tw_665 : Cond.code yX10_undo cX10_undo 1 (some .int) ∈ gw := tw_mk 665 (by decide +kernel) rfl
theorem tw_666 : Cond.methodLink RX10 211 yX0_takeBack ∈ gw := tw_mk 666 (by decide +kernel) rfl
theorem tw_667 : Cond.instanceMethod yX0_takeBack ∈ gw := tw_mk 667 (by decide +kernel) rfl
theorem tw_668 : Cond.selects RX0 yX0_takeBack yX0_takeBack ∈ gw := tw_mk 668 (by decide +kernel) rfl
theorem tw_669 : Cond.code yX0_takeBack cX0_takeBack 2 none ∈ gw := tw_mk 669 (by decide +kernel) rfl
theorem tw_670 : Cond.methodLink RL 77 yX10_yarn ∈ gw := tw_mk 670 (by decide +kernel) rfl
theorem tw_671 : Cond.instanceMethod yX10_yarn ∈ gw := tw_mk 671 (by decide +kernel) rfl
theorem tw_672 : Cond.selects RX10 yX10_yarn yX10_yarn ∈ gw := tw_mk 672 (by decide +kernel) rfl
theorem tw_673 : Cond.code yX10_yarn cX10_yarn 3 (some .int) ∈ gw := tw_mk 673 (by decide +kernel) rfl
theorem tw_674 : Cond.methodLink RL 81 yX10_bears ∈ gw := tw_mk 674 (by decide +kernel) rfl
theorem tw_675 : Cond.instanceMethod yX10_bears ∈ gw := tw_mk 675 (by decide +kernel) rfl
theorem tw_676 : Cond.selects RX10 yX10_bears yX10_bears ∈ gw := tw_mk 676 (by decide +kernel) rfl
theorem tw_677 : Cond.code yX10_bears cX10_bears 2 (some .int) ∈ gw := tw_mk 677 (by decide +kernel) rfl
theorem tw_678 : Cond.methodLink RX10 220 yX9_strandBears ∈ gw := tw_mk 678 (by decide +kernel) rfl
theorem tw_679 : Cond.methodLink RL 85 yX10_best ∈ gw := tw_mk 679 (by decide +kernel) rfl
theorem tw_680 : Cond.instanceMethod yX10_best ∈ gw := tw_mk 680 (by decide +kernel) rfl
theorem tw_681 : Cond.selects RX10 yX10_best yX10_best ∈ gw := tw_mk 681 (by decide +kernel) rfl
theorem tw_682 : Cond.code yX10_best cX10_best 2 (some .int) ∈ gw := tw_mk 682 (by decide +kernel) rfl
theorem tw_683 : Cond.methodLink RX10 223 yX2_search ∈ gw := tw_mk 683 (by decide +kernel) rfl
theorem tw_684 : Cond.instanceMethod yX2_search ∈ gw := tw_mk 684 (by decide +kernel) rfl
theorem tw_685 : Cond.selects RX2 yX2_search yX2_search ∈ gw := tw_mk 685 (by decide +kernel) rfl
theorem tw_686 : Cond.code yX2_search cX2_search 3 none ∈ gw := tw_mk 686 (by decide +kernel) rfl
theorem tw_687 : Cond.methodLink RX2 37 yX9_strength ∈ gw := tw_mk 687 (by decide +kernel) rfl
theorem tw_688 : Cond.methodLink RX2 41 yX2_layFrom ∈ gw := tw_mk 688 (by decide +kernel) rfl
theorem tw_690 : Cond.instanceMethod yX2_layFrom ∈ gw := tw_mk 690 (by decide +kernel) rfl
theorem tw_691 : Cond.code yX2_layFrom cX2_layFrom 4 none ∈ gw := tw_mk 691 (by decide +kernel) rfl
theorem tw_692 : Cond.methodLink RX2 45 yX2_missing ∈ gw := tw_mk 692 (by decide +kernel) rfl
theorem tw_694 : Cond.instanceMethod yX2_missing ∈ gw := tw_mk 694 (by decide +kernel) rfl
theorem tw_695 : Cond.code yX2_missing cX2_missing 3 (some .int) ∈ gw := tw_mk 695 (by decide +kernel) rfl
theorem tw_696 : Cond.methodLink RX2 61 Lib.Math.max.name ∈ gw := tw_mk 696 (by decide +kernel) rfl
theorem tw_697 : Cond.methodLink RX2 49 Lib.Math.min.name ∈ gw := tw_mk 697 (by decide +kernel) rfl
theorem tw_698 : Cond.methodLink RX2 55 arraycopyName ∈ gw := tw_mk 698 (by decide +kernel) rfl
theorem tw_699 : Cond.methodLink RL 89 yX10_cheapest ∈ gw := tw_mk 699 (by decide +kernel) rfl
theorem tw_700 : Cond.instanceMethod yX10_cheapest ∈ gw := tw_mk 700 (by decide +kernel) rfl
theorem tw_701 : Cond.selects RX10 yX10_cheapest yX10_cheapest ∈ gw := tw_mk 701 (by decide +kernel) rfl
theorem tw_702 : Cond.code yX10_cheapest cX10_cheapest 4 (some .int) ∈ gw := tw_mk 702 (by decide +kernel) rfl
theorem tw_703 : Cond.methodLink RX10 232 yX3_search ∈ gw := tw_mk 703 (by decide +kernel) rfl
theorem tw_704 : Cond.instanceMethod yX3_search ∈ gw := tw_mk 704 (by decide +kernel) rfl
theorem tw_705 : Cond.selects RX3 yX3_search yX3_search ∈ gw := tw_mk 705 (by decide +kernel) rfl
theorem tw_706 : Cond.code yX3_search cX3_search 8 (some .int) ∈ gw := tw_mk 706 (by decide +kernel) rfl
theorem tw_707 : Cond.methodLink RX3 24 yX9_strength ∈ gw := tw_mk 707 (by decide +kernel) rfl
theorem tw_708 : Cond.methodLink RX3 28 yX3_fillBest ∈ gw := tw_mk 708 (by decide +kernel) rfl
theorem tw_710 : Cond.instanceMethod yX3_fillBest ∈ gw := tw_mk 710 (by decide +kernel) rfl
theorem tw_711 : Cond.code yX3_fillBest cX3_fillBest 7 (some .int) ∈ gw := tw_mk 711 (by decide +kernel) rfl
theorem tw_712 : Cond.constant RX3 36 (65536) ∈ gw := tw_mk 712 (by decide +kernel) rfl
theorem tw_713 : Cond.methodLink RX3 37 Lib.Math.max.name ∈ gw := tw_mk 713 (by decide +kernel) rfl
theorem tw_714 : Cond.constant RX3 32 (196608) ∈ gw := tw_mk 714 (by decide +kernel) rfl
theorem tw_715 : Cond.methodLink RX3 33 yX9_priceOf ∈ gw := tw_mk 715 (by decide +kernel) rfl
theorem tw_716 : Cond.instanceMethod yX9_priceOf ∈ gw := tw_mk 716 (by decide +kernel) rfl
theorem tw_717 : Cond.selects RX9 yX9_priceOf yX9_priceOf ∈ gw := tw_mk 717 (by decide +kernel) rfl
theorem tw_718 : Cond.code yX9_priceOf cX9_priceOf 4 (some .int) ∈ gw := tw_mk 718 (by decide +kernel) rfl
theorem tw_719 : Cond.methodLink RX10 235 yX9_priceOf ∈ gw := tw_mk 719 (by decide +kernel) rfl
theorem tw_720 : Cond.methodLink RL 93 yX10_odds ∈ gw := tw_mk 720 (by decide +kernel) rfl
theorem tw_721 : Cond.instanceMethod yX10_odds ∈ gw := tw_mk 721 (by decide +kernel) rfl
theorem tw_722 : Cond.selects RX10 yX10_odds yX10_odds ∈ gw := tw_mk 722 (by decide +kernel) rfl
theorem tw_723 : Cond.code yX10_odds cX10_odds 3 (some .int) ∈ gw := tw_mk 723 (by decide +kernel) rfl
theorem tw_724 : Cond.methodLink RX10 238 yX5_reckon ∈ gw := tw_mk 724 (by decide +kernel) rfl
theorem tw_725 : Cond.instanceMethod yX5_reckon ∈ gw := tw_mk 725 (by decide +kernel) rfl
theorem tw_726 : Cond.selects RX5 yX5_reckon yX5_reckon ∈ gw := tw_mk 726 (by decide +kernel) rfl
theorem tw_727 : Cond.code yX5_reckon cX5_reckon 4 none ∈ gw := tw_mk 727 (by decide +kernel) rfl
theorem tw_728 : Cond.methodLink RX5 25 yX5_yearsFrom ∈ gw := tw_mk 728 (by decide +kernel) rfl
theorem tw_730 : Cond.instanceMethod yX5_yearsFrom ∈ gw := tw_mk 730 (by decide +kernel) rfl
theorem tw_731 : Cond.code yX5_yearsFrom cX5_yearsFrom 7 (some .int) ∈ gw := tw_mk 731 (by decide +kernel) rfl
theorem tw_732 : Cond.methodLink RX5 43 yX9_keptInTen ∈ gw := tw_mk 732 (by decide +kernel) rfl
theorem tw_733 : Cond.methodLink RX5 47 yX9_strengthIf ∈ gw := tw_mk 733 (by decide +kernel) rfl
theorem tw_734 : Cond.methodLink RX5 34 yX5_divideByTwo ∈ gw := tw_mk 734 (by decide +kernel) rfl
theorem tw_736 : Cond.instanceMethod yX5_divideByTwo ∈ gw := tw_mk 736 (by decide +kernel) rfl
theorem tw_737 : Cond.code yX5_divideByTwo cX5_divideByTwo 1 none ∈ gw := tw_mk 737 (by decide +kernel) rfl
theorem tw_738 : Cond.methodLink RX5 37 yX5_divideByFive ∈ gw := tw_mk 738 (by decide +kernel) rfl
theorem tw_740 : Cond.instanceMethod yX5_divideByFive ∈ gw := tw_mk 740 (by decide +kernel) rfl
theorem tw_741 : Cond.code yX5_divideByFive cX5_divideByFive 1 none ∈ gw := tw_mk 741 (by decide +kernel) rfl
theorem tw_742 : Cond.methodLink RL 97 yX10_risk ∈ gw := tw_mk 742 (by decide +kernel) rfl
theorem tw_743 : Cond.instanceMethod yX10_risk ∈ gw := tw_mk 743 (by decide +kernel) rfl
theorem tw_744 : Cond.selects RX10 yX10_risk yX10_risk ∈ gw := tw_mk 744 (by decide +kernel) rfl
theorem tw_745 : Cond.code yX10_risk cX10_risk 4 (some .int) ∈ gw := tw_mk 745 (by decide +kernel) rfl
theorem tw_746 : Cond.methodLink RX10 248 yX7_hasBelowZero ∈ gw := tw_mk 746 (by decide +kernel) rfl
theorem tw_747 : Cond.instanceMethod yX7_hasBelowZero ∈ gw := tw_mk 747 (by decide +kernel) rfl
theorem tw_748 : Cond.selects RX7 yX7_hasBelowZero yX7_hasBelowZero ∈ gw := tw_mk 748 (by decide +kernel) rfl
theorem tw_749 : Cond.code yX7_hasBelowZero cX7_hasBelowZero 5 (some .boolean) ∈ gw := tw_mk 749 (by decide +kernel) rfl
theorem tw_750 : Cond.methodLink RX10 251 yX7_countUpTo ∈ gw := tw_mk 750 (by decide +kernel) rfl
theorem tw_751 : Cond.instanceMethod yX7_countUpTo ∈ gw := tw_mk 751 (by decide +kernel) rfl
theorem tw_752 : Cond.selects RX7 yX7_countUpTo yX7_countUpTo ∈ gw := tw_mk 752 (by decide +kernel) rfl
theorem tw_753 : Cond.code yX7_countUpTo cX7_countUpTo 6 (some .int) ∈ gw := tw_mk 753 (by decide +kernel) rfl
theorem tw_754 : Cond.methodLink RL 101 yX10_whose ∈ gw := tw_mk 754 (by decide +kernel) rfl
theorem tw_755 : Cond.instanceMethod yX10_whose ∈ gw := tw_mk 755 (by decide +kernel) rfl
theorem tw_756 : Cond.selects RX10 yX10_whose yX10_whose ∈ gw := tw_mk 756 (by decide +kernel) rfl
theorem tw_757 : Cond.code yX10_whose cX10_whose 6 (some .int) ∈ gw := tw_mk 757 (by decide +kernel) rfl
theorem tw_758 : Cond.methodLink RX10 255 yX9_isLaid ∈ gw := tw_mk 758 (by decide +kernel) rfl
theorem tw_759 : Cond.methodLink RX10 258 yX9_ropeBearsWithout ∈ gw := tw_mk 759 (by decide +kernel) rfl
theorem tw_760 : Cond.methodLink RL 105 yX10_geese ∈ gw := tw_mk 760 (by decide +kernel) rfl
theorem tw_761 : Cond.instanceMethod yX10_geese ∈ gw := tw_mk 761 (by decide +kernel) rfl
theorem tw_762 : Cond.selects RX10 yX10_geese yX10_geese ∈ gw := tw_mk 762 (by decide +kernel) rfl
theorem tw_763 : Cond.code yX10_geese cX10_geese 3 (some .int) ∈ gw := tw_mk 763 (by decide +kernel) rfl
theorem tw_764 : Cond.methodLink RX10 261 yJ6_bitCount_0f7a4 ∈ gw := tw_mk 764 (by decide +kernel) rfl
theorem tw_765 : Cond.static yJ6_bitCount_0f7a4 ∈ gw := tw_mk 765 (by decide +kernel) rfl
theorem tw_766 : Cond.code yJ6_bitCount_0f7a4 cJ6_bitCount_0f7a4 1 (some .int) ∈ gw := tw_mk 766 (by decide +kernel) rfl
theorem tw_767 : Cond.constant RJ6 265 (1431655765) ∈ gw := tw_mk 767 (by decide +kernel) rfl
theorem tw_768 : Cond.constant RJ6 266 (858993459) ∈ gw := tw_mk 768 (by decide +kernel) rfl
theorem tw_769 : Cond.constant RJ6 267 (252645135) ∈ gw := tw_mk 769 (by decide +kernel) rfl
theorem tw_770 : Cond.methodLink RL 109 yX10_fathoms ∈ gw := tw_mk 770 (by decide +kernel) rfl
theorem tw_771 : Cond.instanceMethod yX10_fathoms ∈ gw := tw_mk 771 (by decide +kernel) rfl
theorem tw_772 : Cond.selects RX10 yX10_fathoms yX10_fathoms ∈ gw := tw_mk 772 (by decide +kernel) rfl
theorem tw_773 : Cond.code yX10_fathoms cX10_fathoms 4 (some .int) ∈ gw := tw_mk 773 (by decide +kernel) rfl
theorem tw_774 : Cond.methodLink RL 113 yX10_image ∈ gw := tw_mk 774 (by decide +kernel) rfl
theorem tw_775 : Cond.instanceMethod yX10_image ∈ gw := tw_mk 775 (by decide +kernel) rfl
theorem tw_776 : Cond.selects RX10 yX10_image yX10_image ∈ gw := tw_mk 776 (by decide +kernel) rfl
theorem tw_777 : Cond.code yX10_image cX10_image 3 (some .int) ∈ gw := tw_mk 777 (by decide +kernel) rfl
theorem tw_778 : Cond.methodLink RL 117 yX10_restore ∈ gw := tw_mk 778 (by decide +kernel) rfl
theorem tw_779 : Cond.instanceMethod yX10_restore ∈ gw := tw_mk 779 (by decide +kernel) rfl
theorem tw_780 : Cond.selects RX10 yX10_restore yX10_restore ∈ gw := tw_mk 780 (by decide +kernel) rfl
theorem tw_781 : Cond.code yX10_restore cX10_restore 3 (some .int) ∈ gw := tw_mk 781 (by decide +kernel) rfl
theorem tw_782 : Cond.methodLink RL 121 yX10_kind ∈ gw := tw_mk 782 (by decide +kernel) rfl
theorem tw_783 : Cond.instanceMethod yX10_kind ∈ gw := tw_mk 783 (by decide +kernel) rfl
theorem tw_784 : Cond.selects RX10 yX10_kind yX10_kind ∈ gw := tw_mk 784 (by decide +kernel) rfl
theorem tw_785 : Cond.code yX10_kind cX10_kind 2 (some .int) ∈ gw := tw_mk 785 (by decide +kernel) rfl
theorem tw_786 : Cond.methodLink RL 125 yX10_as ∈ gw := tw_mk 786 (by decide +kernel) rfl
theorem tw_787 : Cond.instanceMethod yX10_as ∈ gw := tw_mk 787 (by decide +kernel) rfl
theorem tw_788 : Cond.selects RX10 yX10_as yX10_as ∈ gw := tw_mk 788 (by decide +kernel) rfl
theorem tw_789 : Cond.code yX10_as cX10_as 3 (some .int) ∈ gw := tw_mk 789 (by decide +kernel) rfl
theorem tw_790 : Cond.methodLink RX10 269 yX4_isOne ∈ gw := tw_mk 790 (by decide +kernel) rfl
theorem tw_791 : Cond.static yX4_isOne ∈ gw := tw_mk 791 (by decide +kernel) rfl
theorem tw_792 : Cond.code yX4_isOne cX4_isOne 4 (some .boolean) ∈ gw := tw_mk 792 (by decide +kernel) rfl
theorem tw_793 : Cond.fieldLink RX4 9 "VowRope$Kinds" "ABOVE" "[I" ∈ gw := tw_mk 793 (by decide +kernel) rfl
theorem tw_795 : Cond.methodLink RL 129 yX10_ask ∈ gw := tw_mk 795 (by decide +kernel) rfl
theorem tw_796 : Cond.instanceMethod yX10_ask ∈ gw := tw_mk 796 (by decide +kernel) rfl
theorem tw_797 : Cond.selects RX10 yX10_ask yX10_ask ∈ gw := tw_mk 797 (by decide +kernel) rfl
theorem tw_798 : Cond.code yX10_ask cX10_ask 3 (some .int) ∈ gw := tw_mk 798 (by decide +kernel) rfl
theorem tw_799 : Cond.methodLink RX10 273 yX1_answer ∈ gw := tw_mk 799 (by decide +kernel) rfl
theorem tw_800 : Cond.instanceMethod yX1_answer ∈ gw := tw_mk 800 (by decide +kernel) rfl
theorem tw_801 : Cond.selects RX1 yX1_answer yX1_answer ∈ gw := tw_mk 801 (by decide +kernel) rfl
theorem tw_802 : Cond.code yX1_answer cX1_answer 5 (some .int) ∈ gw := tw_mk 802 (by decide +kernel) rfl
theorem tw_803 : Cond.methodLink RX1 22 yX4_sizeBody ∈ gw := tw_mk 803 (by decide +kernel) rfl
theorem tw_804 : Cond.static yX4_sizeBody ∈ gw := tw_mk 804 (by decide +kernel) rfl
theorem tw_805 : Cond.code yX4_sizeBody cX4_sizeBody 1 (some .int) ∈ gw := tw_mk 805 (by decide +kernel) rfl
theorem tw_806 : Cond.fieldLink RX4 13 "VowRope$Kinds" "SIZE_BODIES" "[I" ∈ gw := tw_mk 806 (by decide +kernel) rfl
theorem tw_808 : Cond.methodLink RX4 16 yX4_nearest ∈ gw := tw_mk 808 (by decide +kernel) rfl
theorem tw_809 : Cond.static yX4_nearest ∈ gw := tw_mk 809 (by decide +kernel) rfl
theorem tw_810 : Cond.code yX4_nearest cX4_nearest 4 (some .int) ∈ gw := tw_mk 810 (by decide +kernel) rfl
theorem tw_811 : Cond.methodLink RX1 28 yX4_markBody ∈ gw := tw_mk 811 (by decide +kernel) rfl
theorem tw_812 : Cond.static yX4_markBody ∈ gw := tw_mk 812 (by decide +kernel) rfl
theorem tw_813 : Cond.code yX4_markBody cX4_markBody 1 (some .int) ∈ gw := tw_mk 813 (by decide +kernel) rfl
theorem tw_814 : Cond.fieldLink RX4 20 "VowRope$Kinds" "MARK_BODIES" "[I" ∈ gw := tw_mk 814 (by decide +kernel) rfl
theorem tw_816 : Cond.methodLink RX1 31 yX1_give ∈ gw := tw_mk 816 (by decide +kernel) rfl
theorem tw_818 : Cond.instanceMethod yX1_give ∈ gw := tw_mk 818 (by decide +kernel) rfl
theorem tw_819 : Cond.code yX1_give cX1_give 7 (some .int) ∈ gw := tw_mk 819 (by decide +kernel) rfl
theorem tw_820 : Cond.methodLink RX1 35 yX1_leave ∈ gw := tw_mk 820 (by decide +kernel) rfl
theorem tw_822 : Cond.instanceMethod yX1_leave ∈ gw := tw_mk 822 (by decide +kernel) rfl
theorem tw_823 : Cond.code yX1_leave cX1_leave 2 none ∈ gw := tw_mk 823 (by decide +kernel) rfl
theorem tw_824 : Cond.methodLink RL 133 yX10_trace ∈ gw := tw_mk 824 (by decide +kernel) rfl
theorem tw_825 : Cond.instanceMethod yX10_trace ∈ gw := tw_mk 825 (by decide +kernel) rfl
theorem tw_826 : Cond.selects RX10 yX10_trace yX10_trace ∈ gw := tw_mk 826 (by decide +kernel) rfl
theorem tw_827 : Cond.code yX10_trace cX10_trace 2 (some .int) ∈ gw := tw_mk 827 (by decide +kernel) rfl
theorem tw_828 : Cond.methodLink RL 137 yX10_count ∈ gw := tw_mk 828 (by decide +kernel) rfl
theorem tw_829 : Cond.instanceMethod yX10_count ∈ gw := tw_mk 829 (by decide +kernel) rfl
theorem tw_830 : Cond.selects RX10 yX10_count yX10_count ∈ gw := tw_mk 830 (by decide +kernel) rfl
theorem tw_831 : Cond.code yX10_count cX10_count 2 (some .int) ∈ gw := tw_mk 831 (by decide +kernel) rfl
theorem tw_832 : Cond.methodLink RX10 283 yX7_howMany ∈ gw := tw_mk 832 (by decide +kernel) rfl
theorem tw_833 : Cond.instanceMethod yX7_howMany ∈ gw := tw_mk 833 (by decide +kernel) rfl
theorem tw_834 : Cond.selects RX7 yX7_howMany yX7_howMany ∈ gw := tw_mk 834 (by decide +kernel) rfl
theorem tw_835 : Cond.code yX7_howMany cX7_howMany 3 (some .int) ∈ gw := tw_mk 835 (by decide +kernel) rfl
theorem tw_836 : Cond.methodLink RX7 25 yX7_isMissing ∈ gw := tw_mk 836 (by decide +kernel) rfl
theorem tw_837 : Cond.methodLink RX10 286 yX9_laidYarns ∈ gw := tw_mk 837 (by decide +kernel) rfl
theorem tw_838 : Cond.instanceMethod yX9_laidYarns ∈ gw := tw_mk 838 (by decide +kernel) rfl
theorem tw_839 : Cond.selects RX9 yX9_laidYarns yX9_laidYarns ∈ gw := tw_mk 839 (by decide +kernel) rfl
theorem tw_840 : Cond.code yX9_laidYarns cX9_laidYarns 3 (some .int) ∈ gw := tw_mk 840 (by decide +kernel) rfl
theorem tw_841 : Cond.methodLink RX10 289 yX9_brokenVows ∈ gw := tw_mk 841 (by decide +kernel) rfl
theorem tw_842 : Cond.instanceMethod yX9_brokenVows ∈ gw := tw_mk 842 (by decide +kernel) rfl
theorem tw_843 : Cond.selects RX9 yX9_brokenVows yX9_brokenVows ∈ gw := tw_mk 843 (by decide +kernel) rfl
theorem tw_844 : Cond.code yX9_brokenVows cX9_brokenVows 3 (some .int) ∈ gw := tw_mk 844 (by decide +kernel) rfl
theorem tw_845 : Cond.methodLink RL 141 yX10_status ∈ gw := tw_mk 845 (by decide +kernel) rfl
theorem tw_846 : Cond.instanceMethod yX10_status ∈ gw := tw_mk 846 (by decide +kernel) rfl
theorem tw_847 : Cond.selects RX10 yX10_status yX10_status ∈ gw := tw_mk 847 (by decide +kernel) rfl
theorem tw_848 : Cond.code yX10_status cX10_status 1 (some .int) ∈ gw := tw_mk 848 (by decide +kernel) rfl
theorem tw_849 : Cond.classLink RL 10 "VowRopeModel" ∈ gw := tw_mk 849 (by decide +kernel) rfl
theorem tw_850 : Cond.instantiable RX11 29 ∈ gw := tw_mk 850 (by decide +kernel) rfl
theorem tw_851 : Cond.methodLink RL 12 yX11_init ∈ gw := tw_mk 851 (by decide +kernel) rfl
theorem tw_852 : Cond.instanceMethod yX11_init ∈ gw := tw_mk 852 (by decide +kernel) rfl
theorem tw_853 : Cond.code yX11_init cX11_init 1 none ∈ gw := tw_mk 853 (by decide +kernel) rfl
theorem tw_854 : Cond.methodLink RX11 1 objectInit ∈ gw := tw_mk 854 (by decide +kernel) rfl
theorem tw_855 : Cond.fieldLink RX11 50 "VowRopeModel" "thrown" "I" ∈ gw := tw_mk 855 (by decide +kernel) rfl
theorem tw_856 : Cond.fieldLink RX11 54 "VowRopeModel" "status" "I" ∈ gw := tw_mk 856 (by decide +kernel) rfl
theorem tw_857 : Cond.fieldLink RX11 7 "VowRopeModel" "lane" "[I" ∈ gw := tw_mk 857 (by decide +kernel) rfl
theorem tw_858 : Cond.fieldLink RX11 13 "VowRopeModel" "many" "[I" ∈ gw := tw_mk 858 (by decide +kernel) rfl
theorem tw_859 : Cond.fieldLink RX11 16 "VowRopeModel" "item" "[I" ∈ gw := tw_mk 859 (by decide +kernel) rfl
theorem tw_860 : Cond.fieldLink RX11 19 "VowRopeModel" "walk" "[I" ∈ gw := tw_mk 860 (by decide +kernel) rfl
theorem tw_861 : Cond.fieldLink RX11 22 "VowRopeModel" "fresh" "[I" ∈ gw := tw_mk 861 (by decide +kernel) rfl
theorem tw_862 : Cond.fieldLink RX11 177 "VowRopeModel" "isThere" "Z" ∈ gw := tw_mk 862 (by decide +kernel) rfl
theorem tw_863 : Cond.fieldLink RX11 25 "VowRopeModel" "was" "[I" ∈ gw := tw_mk 863 (by decide +kernel) rfl
theorem tw_864 : Cond.fieldLink RX11 181 "VowRopeModel" "acts" "I" ∈ gw := tw_mk 864 (by decide +kernel) rfl
theorem tw_865 : Cond.fieldLink RX11 28 "VowRopeModel" "tape" "[I" ∈ gw := tw_mk 865 (by decide +kernel) rfl
theorem tw_866 : Cond.fieldLink RX11 77 "VowRopeModel" "taped" "I" ∈ gw := tw_mk 866 (by decide +kernel) rfl
theorem tw_867 : Cond.fieldLink RX11 173 "VowRopeModel" "latest" "I" ∈ gw := tw_mk 867 (by decide +kernel) rfl
theorem tw_868 : Cond.fieldLink RX11 83 "VowRopeModel" "length" "I" ∈ gw := tw_mk 868 (by decide +kernel) rfl
theorem tw_869 : Cond.fieldLink RX11 87 "VowRopeModel" "cursor" "I" ∈ gw := tw_mk 869 (by decide +kernel) rfl
theorem tw_870 : Cond.fieldLink RX11 96 "VowRopeModel" "token" "I" ∈ gw := tw_mk 870 (by decide +kernel) rfl
theorem tw_871 : Cond.fieldLink RX11 93 "VowRopeModel" "start" "I" ∈ gw := tw_mk 871 (by decide +kernel) rfl
theorem tw_872 : Cond.fieldLink RX11 105 "VowRopeModel" "till" "I" ∈ gw := tw_mk 872 (by decide +kernel) rfl
theorem tw_873 : Cond.fieldLink RX11 108 "VowRopeModel" "fault" "I" ∈ gw := tw_mk 873 (by decide +kernel) rfl
theorem tw_874 : Cond.fieldLink RX11 114 "VowRopeModel" "faultAt" "I" ∈ gw := tw_mk 874 (by decide +kernel) rfl
theorem tw_875 : Cond.fieldLink RX11 31 "VowRopeModel" "strand" "[I" ∈ gw := tw_mk 875 (by decide +kernel) rfl
theorem tw_876 : Cond.fieldLink RX11 219 "VowRopeModel" "drawn" "J" ∈ gw := tw_mk 876 (by decide +kernel) rfl
theorem tw_877 : Cond.fieldLink RX11 252 "VowRopeModel" "bestRow" "I" ∈ gw := tw_mk 877 (by decide +kernel) rfl
theorem tw_878 : Cond.fieldLink RX11 34 "VowRopeModel" "together" "[I" ∈ gw := tw_mk 878 (by decide +kernel) rfl
theorem tw_879 : Cond.fieldLink RX11 37 "VowRopeModel" "strands" "[I" ∈ gw := tw_mk 879 (by decide +kernel) rfl
theorem tw_880 : Cond.fieldLink RX11 40 "VowRopeModel" "isImage" "[Z" ∈ gw := tw_mk 880 (by decide +kernel) rfl
theorem tw_881 : Cond.fieldLink RX11 44 "VowRopeModel" "kept" "[I" ∈ gw := tw_mk 881 (by decide +kernel) rfl
theorem tw_882 : Cond.fieldLink RX11 47 "VowRopeModel" "trace" "[I" ∈ gw := tw_mk 882 (by decide +kernel) rfl
theorem tw_883 : Cond.fieldLink RX11 281 "VowRopeModel" "traced" "I" ∈ gw := tw_mk 883 (by decide +kernel) rfl
theorem tw_943 : Cond.arrayClass .boolean ∈ gw := tw_mk 943 (by decide +kernel) rfl
theorem tw_944 : Cond.methodLink RL 17 yX11_row ∈ gw := tw_mk 944 (by decide +kernel) rfl
theorem tw_945 : Cond.instanceMethod yX11_row ∈ gw := tw_mk 945 (by decide +kernel) rfl
theorem tw_946 : Cond.selects RX11 yX11_row yX11_row ∈ gw := tw_mk 946 (by decide +kernel) rfl
theorem tw_947 : Cond.code yX11_row cX11_row 5 (some .int) ∈ gw := tw_mk 947 (by decide +kernel) rfl
theorem tw_948 : Cond.methodLink RX11 64 yX11_isRow ∈ gw := tw_mk 948 (by decide +kernel) rfl
theorem tw_949 : Cond.static yX11_isRow ∈ gw := tw_mk 949 (by decide +kernel) rfl
theorem tw_950 : Cond.code yX11_isRow cX11_isRow 1 (some .boolean) ∈ gw := tw_mk 950 (by decide +kernel) rfl
theorem tw_951 : Cond.constantLong RX11 58 (7) ∈ gw := tw_mk 951 (by decide +kernel) rfl
theorem tw_952 : Cond.methodLink RX11 60 yX11_in ∈ gw := tw_mk 952 (by decide +kernel) rfl
theorem tw_953 : Cond.static yX11_in ∈ gw := tw_mk 953 (by decide +kernel) rfl
theorem tw_954 : Cond.code yX11_in cX11_in 6 (some .boolean) ∈ gw := tw_mk 954 (by decide +kernel) rfl
theorem tw_955 : Cond.constantLong RX11 68 (2) ∈ gw := tw_mk 955 (by decide +kernel) rfl
theorem tw_956 : Cond.constant RX11 70 (-1000001) ∈ gw := tw_mk 956 (by decide +kernel) rfl
theorem tw_957 : Cond.methodLink RX11 71 yX11_finding ∈ gw := tw_mk 957 (by decide +kernel) rfl
theorem tw_959 : Cond.instanceMethod yX11_finding ∈ gw := tw_mk 959 (by decide +kernel) rfl
theorem tw_960 : Cond.code yX11_finding cX11_finding 2 (some .int) ∈ gw := tw_mk 960 (by decide +kernel) rfl
theorem tw_961 : Cond.constant RX11 57 (-1000010) ∈ gw := tw_mk 961 (by decide +kernel) rfl
theorem tw_962 : Cond.methodLink RL 21 yX11_set ∈ gw := tw_mk 962 (by decide +kernel) rfl
theorem tw_963 : Cond.instanceMethod yX11_set ∈ gw := tw_mk 963 (by decide +kernel) rfl
theorem tw_964 : Cond.selects RX11 yX11_set yX11_set ∈ gw := tw_mk 964 (by decide +kernel) rfl
theorem tw_965 : Cond.code yX11_set cX11_set 4 (some .int) ∈ gw := tw_mk 965 (by decide +kernel) rfl
theorem tw_966 : Cond.methodLink RL 26 yX11_copy ∈ gw := tw_mk 966 (by decide +kernel) rfl
theorem tw_967 : Cond.instanceMethod yX11_copy ∈ gw := tw_mk 967 (by decide +kernel) rfl
theorem tw_968 : Cond.selects RX11 yX11_copy yX11_copy ∈ gw := tw_mk 968 (by decide +kernel) rfl
theorem tw_969 : Cond.code yX11_copy cX11_copy 9 (some .int) ∈ gw := tw_mk 969 (by decide +kernel) rfl
theorem tw_970 : Cond.methodLink RL 31 yX11_drop ∈ gw := tw_mk 970 (by decide +kernel) rfl
theorem tw_971 : Cond.instanceMethod yX11_drop ∈ gw := tw_mk 971 (by decide +kernel) rfl
theorem tw_972 : Cond.selects RX11 yX11_drop yX11_drop ∈ gw := tw_mk 972 (by decide +kernel) rfl
theorem tw_973 : Cond.code yX11_drop cX11_drop 2 (some .int) ∈ gw := tw_mk 973 (by decide +kernel) rfl
theorem tw_974 : Cond.methodLink RL 38 yX11_feed ∈ gw := tw_mk 974 (by decide +kernel) rfl
theorem tw_975 : Cond.instanceMethod yX11_feed ∈ gw := tw_mk 975 (by decide +kernel) rfl
theorem tw_976 : Cond.selects RX11 yX11_feed yX11_feed ∈ gw := tw_mk 976 (by decide +kernel) rfl
theorem tw_977 : Cond.code yX11_feed cX11_feed 5 (some .int) ∈ gw := tw_mk 977 (by decide +kernel) rfl
theorem tw_978 : Cond.constantLong RX11 75 (8) ∈ gw := tw_mk 978 (by decide +kernel) rfl
theorem tw_979 : Cond.constant RX11 80 (-1000003) ∈ gw := tw_mk 979 (by decide +kernel) rfl
theorem tw_980 : Cond.constantLong RX11 81 (255) ∈ gw := tw_mk 980 (by decide +kernel) rfl
theorem tw_981 : Cond.methodLink RL 43 yX11_walk ∈ gw := tw_mk 981 (by decide +kernel) rfl
theorem tw_982 : Cond.instanceMethod yX11_walk ∈ gw := tw_mk 982 (by decide +kernel) rfl
theorem tw_983 : Cond.selects RX11 yX11_walk yX11_walk ∈ gw := tw_mk 983 (by decide +kernel) rfl
theorem tw_984 : Cond.code yX11_walk cX11_walk 2 (some .int) ∈ gw := tw_mk 984 (by decide +kernel) rfl
theorem tw_985 : Cond.methodLink RX11 158 yX11_begin ∈ gw := tw_mk 985 (by decide +kernel) rfl
theorem tw_987 : Cond.instanceMethod yX11_begin ∈ gw := tw_mk 987 (by decide +kernel) rfl
theorem tw_988 : Cond.code yX11_begin cX11_begin 1 none ∈ gw := tw_mk 988 (by decide +kernel) rfl
theorem tw_989 : Cond.methodLink RX11 111 yX11_next ∈ gw := tw_mk 989 (by decide +kernel) rfl
theorem tw_991 : Cond.instanceMethod yX11_next ∈ gw := tw_mk 991 (by decide +kernel) rfl
theorem tw_992 : Cond.code yX11_next cX11_next 2 none ∈ gw := tw_mk 992 (by decide +kernel) rfl
theorem tw_993 : Cond.methodLink RX11 90 yX11_byteAt ∈ gw := tw_mk 993 (by decide +kernel) rfl
theorem tw_995 : Cond.instanceMethod yX11_byteAt ∈ gw := tw_mk 995 (by decide +kernel) rfl
theorem tw_996 : Cond.code yX11_byteAt cX11_byteAt 2 (some .int) ∈ gw := tw_mk 996 (by decide +kernel) rfl
theorem tw_997 : Cond.constant RX11 86 (-1000000) ∈ gw := tw_mk 997 (by decide +kernel) rfl
theorem tw_998 : Cond.methodLink RX11 99 yX11_isLetter ∈ gw := tw_mk 998 (by decide +kernel) rfl
theorem tw_999 : Cond.static yX11_isLetter ∈ gw := tw_mk 999 (by decide +kernel) rfl
theorem tw_1000 : Cond.code yX11_isLetter cX11_isLetter 1 (some .boolean) ∈ gw := tw_mk 1000 (by decide +kernel) rfl
theorem tw_1001 : Cond.methodLink RX11 102 yX11_isFigure ∈ gw := tw_mk 1001 (by decide +kernel) rfl
theorem tw_1002 : Cond.static yX11_isFigure ∈ gw := tw_mk 1002 (by decide +kernel) rfl
theorem tw_1003 : Cond.code yX11_isFigure cX11_isFigure 1 (some .boolean) ∈ gw := tw_mk 1003 (by decide +kernel) rfl
theorem tw_1004 : Cond.methodLink RX11 150 yX11_name ∈ gw := tw_mk 1004 (by decide +kernel) rfl
theorem tw_1006 : Cond.instanceMethod yX11_name ∈ gw := tw_mk 1006 (by decide +kernel) rfl
theorem tw_1007 : Cond.code yX11_name cX11_name 4 (some .long) ∈ gw := tw_mk 1007 (by decide +kernel) rfl
theorem tw_1008 : Cond.constantLong RX11 161 (7102839) ∈ gw := tw_mk 1008 (by decide +kernel) rfl
theorem tw_1009 : Cond.methodLink RX11 125 yX11_must ∈ gw := tw_mk 1009 (by decide +kernel) rfl
theorem tw_1011 : Cond.instanceMethod yX11_must ∈ gw := tw_mk 1011 (by decide +kernel) rfl
theorem tw_1012 : Cond.code yX11_must cX11_must 2 none ∈ gw := tw_mk 1012 (by decide +kernel) rfl
theorem tw_1013 : Cond.methodLink RX11 117 yX11_bad ∈ gw := tw_mk 1013 (by decide +kernel) rfl
theorem tw_1015 : Cond.instanceMethod yX11_bad ∈ gw := tw_mk 1015 (by decide +kernel) rfl
theorem tw_1016 : Cond.code yX11_bad cX11_bad 2 none ∈ gw := tw_mk 1016 (by decide +kernel) rfl
theorem tw_1017 : Cond.methodLink RX11 143 yX11_number ∈ gw := tw_mk 1017 (by decide +kernel) rfl
theorem tw_1019 : Cond.instanceMethod yX11_number ∈ gw := tw_mk 1019 (by decide +kernel) rfl
theorem tw_1020 : Cond.code yX11_number cX11_number 4 (some .int) ∈ gw := tw_mk 1020 (by decide +kernel) rfl
theorem tw_1021 : Cond.methodLink RX11 121 yX11_figures ∈ gw := tw_mk 1021 (by decide +kernel) rfl
theorem tw_1023 : Cond.instanceMethod yX11_figures ∈ gw := tw_mk 1023 (by decide +kernel) rfl
theorem tw_1024 : Cond.code yX11_figures cX11_figures 3 (some .int) ∈ gw := tw_mk 1024 (by decide +kernel) rfl
theorem tw_1025 : Cond.methodLink RX11 147 yX11_mustEnd ∈ gw := tw_mk 1025 (by decide +kernel) rfl
theorem tw_1027 : Cond.instanceMethod yX11_mustEnd ∈ gw := tw_mk 1027 (by decide +kernel) rfl
theorem tw_1028 : Cond.code yX11_mustEnd cX11_mustEnd 1 none ∈ gw := tw_mk 1028 (by decide +kernel) rfl
theorem tw_1029 : Cond.constantLong RX11 163 (32493203050161522) ∈ gw := tw_mk 1029 (by decide +kernel) rfl
theorem tw_1030 : Cond.methodLink RX11 165 yX11_readSpeaker ∈ gw := tw_mk 1030 (by decide +kernel) rfl
theorem tw_1032 : Cond.instanceMethod yX11_readSpeaker ∈ gw := tw_mk 1032 (by decide +kernel) rfl
theorem tw_1033 : Cond.code yX11_readSpeaker cX11_readSpeaker 3 none ∈ gw := tw_mk 1033 (by decide +kernel) rfl
theorem tw_1034 : Cond.methodLink RX11 139 yX11_begins ∈ gw := tw_mk 1034 (by decide +kernel) rfl
theorem tw_1036 : Cond.instanceMethod yX11_begins ∈ gw := tw_mk 1036 (by decide +kernel) rfl
theorem tw_1037 : Cond.code yX11_begins cX11_begins 3 none ∈ gw := tw_mk 1037 (by decide +kernel) rfl
theorem tw_1038 : Cond.constantLong RX11 168 (2036429422) ∈ gw := tw_mk 1038 (by decide +kernel) rfl
theorem tw_1039 : Cond.methodLink RX11 170 yX11_readYarn ∈ gw := tw_mk 1039 (by decide +kernel) rfl
theorem tw_1041 : Cond.instanceMethod yX11_readYarn ∈ gw := tw_mk 1041 (by decide +kernel) rfl
theorem tw_1042 : Cond.code yX11_readYarn cX11_readYarn 5 none ∈ gw := tw_mk 1042 (by decide +kernel) rfl
theorem tw_1043 : Cond.methodLink RX11 154 yX11_kindBy ∈ gw := tw_mk 1043 (by decide +kernel) rfl
theorem tw_1044 : Cond.static yX11_kindBy ∈ gw := tw_mk 1044 (by decide +kernel) rfl
theorem tw_1045 : Cond.code yX11_kindBy cX11_kindBy 2 (some .int) ∈ gw := tw_mk 1045 (by decide +kernel) rfl
theorem tw_1046 : Cond.constantLong RX11 129 (7761783) ∈ gw := tw_mk 1046 (by decide +kernel) rfl
theorem tw_1047 : Cond.constantLong RX11 131 (1868657768) ∈ gw := tw_mk 1047 (by decide +kernel) rfl
theorem tw_1048 : Cond.constantLong RX11 133 (7104869) ∈ gw := tw_mk 1048 (by decide +kernel) rfl
theorem tw_1049 : Cond.constantLong RX11 135 (1752133733) ∈ gw := tw_mk 1049 (by decide +kernel) rfl
theorem tw_1050 : Cond.constantLong RX11 137 (1684365940) ∈ gw := tw_mk 1050 (by decide +kernel) rfl
theorem tw_1051 : Cond.constant RX11 176 (-1000100) ∈ gw := tw_mk 1051 (by decide +kernel) rfl
theorem tw_1052 : Cond.methodLink RL 47 yX11_fault ∈ gw := tw_mk 1052 (by decide +kernel) rfl
theorem tw_1053 : Cond.instanceMethod yX11_fault ∈ gw := tw_mk 1053 (by decide +kernel) rfl
theorem tw_1054 : Cond.selects RX11 yX11_fault yX11_fault ∈ gw := tw_mk 1054 (by decide +kernel) rfl
theorem tw_1055 : Cond.code yX11_fault cX11_fault 1 (some .int) ∈ gw := tw_mk 1055 (by decide +kernel) rfl
theorem tw_1056 : Cond.methodLink RL 52 yX11_lay ∈ gw := tw_mk 1056 (by decide +kernel) rfl
theorem tw_1057 : Cond.instanceMethod yX11_lay ∈ gw := tw_mk 1057 (by decide +kernel) rfl
theorem tw_1058 : Cond.selects RX11 yX11_lay yX11_lay ∈ gw := tw_mk 1058 (by decide +kernel) rfl
theorem tw_1059 : Cond.code yX11_lay cX11_lay 4 (some .int) ∈ gw := tw_mk 1059 (by decide +kernel) rfl
theorem tw_1060 : Cond.methodLink RX11 206 yX11_isYarn ∈ gw := tw_mk 1060 (by decide +kernel) rfl
theorem tw_1062 : Cond.instanceMethod yX11_isYarn ∈ gw := tw_mk 1062 (by decide +kernel) rfl
theorem tw_1063 : Cond.code yX11_isYarn cX11_isYarn 2 (some .boolean) ∈ gw := tw_mk 1063 (by decide +kernel) rfl
theorem tw_1064 : Cond.constantLong RX11 209 (-1) ∈ gw := tw_mk 1064 (by decide +kernel) rfl
theorem tw_1065 : Cond.methodLink RX11 211 yX11_keep ∈ gw := tw_mk 1065 (by decide +kernel) rfl
theorem tw_1067 : Cond.instanceMethod yX11_keep ∈ gw := tw_mk 1067 (by decide +kernel) rfl
theorem tw_1068 : Cond.code yX11_keep cX11_keep 2 none ∈ gw := tw_mk 1068 (by decide +kernel) rfl
theorem tw_1069 : Cond.methodLink RX11 188 yX11_of ∈ gw := tw_mk 1069 (by decide +kernel) rfl
theorem tw_1071 : Cond.instanceMethod yX11_of ∈ gw := tw_mk 1071 (by decide +kernel) rfl
theorem tw_1072 : Cond.code yX11_of cX11_of 3 (some .int) ∈ gw := tw_mk 1072 (by decide +kernel) rfl
theorem tw_1073 : Cond.methodLink RX11 214 yX11_becomes ∈ gw := tw_mk 1073 (by decide +kernel) rfl
theorem tw_1075 : Cond.instanceMethod yX11_becomes ∈ gw := tw_mk 1075 (by decide +kernel) rfl
theorem tw_1076 : Cond.code yX11_becomes cX11_becomes 4 none ∈ gw := tw_mk 1076 (by decide +kernel) rfl
theorem tw_1077 : Cond.methodLink RL 56 yX11_pitch ∈ gw := tw_mk 1077 (by decide +kernel) rfl
theorem tw_1078 : Cond.instanceMethod yX11_pitch ∈ gw := tw_mk 1078 (by decide +kernel) rfl
theorem tw_1079 : Cond.selects RX11 yX11_pitch yX11_pitch ∈ gw := tw_mk 1079 (by decide +kernel) rfl
theorem tw_1080 : Cond.code yX11_pitch cX11_pitch 2 (some .int) ∈ gw := tw_mk 1080 (by decide +kernel) rfl
theorem tw_1081 : Cond.constant RX11 218 (-1000002) ∈ gw := tw_mk 1081 (by decide +kernel) rfl
theorem tw_1082 : Cond.methodLink RX11 200 yX11_strength ∈ gw := tw_mk 1082 (by decide +kernel) rfl
theorem tw_1084 : Cond.instanceMethod yX11_strength ∈ gw := tw_mk 1084 (by decide +kernel) rfl
theorem tw_1085 : Cond.code yX11_strength cX11_strength 2 (some .int) ∈ gw := tw_mk 1085 (by decide +kernel) rfl
theorem tw_1086 : Cond.methodLink RX11 194 yX11_strengthBy ∈ gw := tw_mk 1086 (by decide +kernel) rfl
theorem tw_1088 : Cond.instanceMethod yX11_strengthBy ∈ gw := tw_mk 1088 (by decide +kernel) rfl
theorem tw_1089 : Cond.code yX11_strengthBy cX11_strengthBy 5 (some .int) ∈ gw := tw_mk 1089 (by decide +kernel) rfl
theorem tw_1090 : Cond.methodLink RX11 191 yX11_priceOf ∈ gw := tw_mk 1090 (by decide +kernel) rfl
theorem tw_1092 : Cond.instanceMethod yX11_priceOf ∈ gw := tw_mk 1092 (by decide +kernel) rfl
theorem tw_1093 : Cond.code yX11_priceOf cX11_priceOf 2 (some .int) ∈ gw := tw_mk 1093 (by decide +kernel) rfl
theorem tw_1094 : Cond.methodLink RL 60 yX11_vow ∈ gw := tw_mk 1094 (by decide +kernel) rfl
theorem tw_1095 : Cond.instanceMethod yX11_vow ∈ gw := tw_mk 1095 (by decide +kernel) rfl
theorem tw_1096 : Cond.selects RX11 yX11_vow yX11_vow ∈ gw := tw_mk 1096 (by decide +kernel) rfl
theorem tw_1097 : Cond.code yX11_vow cX11_vow 4 (some .int) ∈ gw := tw_mk 1097 (by decide +kernel) rfl
theorem tw_1098 : Cond.methodLink RL 64 yX11_splice ∈ gw := tw_mk 1098 (by decide +kernel) rfl
theorem tw_1099 : Cond.instanceMethod yX11_splice ∈ gw := tw_mk 1099 (by decide +kernel) rfl
theorem tw_1100 : Cond.selects RX11 yX11_splice yX11_splice ∈ gw := tw_mk 1100 (by decide +kernel) rfl
theorem tw_1101 : Cond.code yX11_splice cX11_splice 3 (some .int) ∈ gw := tw_mk 1101 (by decide +kernel) rfl
theorem tw_1102 : Cond.methodLink RL 68 yX11_pull ∈ gw := tw_mk 1102 (by decide +kernel) rfl
theorem tw_1103 : Cond.instanceMethod yX11_pull ∈ gw := tw_mk 1103 (by decide +kernel) rfl
theorem tw_1104 : Cond.selects RX11 yX11_pull yX11_pull ∈ gw := tw_mk 1104 (by decide +kernel) rfl
theorem tw_1105 : Cond.code yX11_pull cX11_pull 8 (some .int) ∈ gw := tw_mk 1105 (by decide +kernel) rfl
theorem tw_1106 : Cond.methodLink RX11 227 yX11_isLoad ∈ gw := tw_mk 1106 (by decide +kernel) rfl
theorem tw_1107 : Cond.static yX11_isLoad ∈ gw := tw_mk 1107 (by decide +kernel) rfl
theorem tw_1108 : Cond.code yX11_isLoad cX11_isLoad 1 (some .boolean) ∈ gw := tw_mk 1108 (by decide +kernel) rfl
theorem tw_1109 : Cond.constantLong RX11 186 (9999) ∈ gw := tw_mk 1109 (by decide +kernel) rfl
theorem tw_1110 : Cond.methodLink RX11 230 yX11_isSeed ∈ gw := tw_mk 1110 (by decide +kernel) rfl
theorem tw_1111 : Cond.static yX11_isSeed ∈ gw := tw_mk 1111 (by decide +kernel) rfl
theorem tw_1112 : Cond.code yX11_isSeed cX11_isSeed 1 (some .boolean) ∈ gw := tw_mk 1112 (by decide +kernel) rfl
theorem tw_1113 : Cond.constantLong RX11 184 (999999) ∈ gw := tw_mk 1113 (by decide +kernel) rfl
theorem tw_1114 : Cond.methodLink RX11 233 yX11_draw ∈ gw := tw_mk 1114 (by decide +kernel) rfl
theorem tw_1116 : Cond.instanceMethod yX11_draw ∈ gw := tw_mk 1116 (by decide +kernel) rfl
theorem tw_1117 : Cond.code yX11_draw cX11_draw 2 (some .int) ∈ gw := tw_mk 1117 (by decide +kernel) rfl
theorem tw_1118 : Cond.constantLong RX11 223 (16807) ∈ gw := tw_mk 1118 (by decide +kernel) rfl
theorem tw_1119 : Cond.constantLong RX11 225 (2147483647) ∈ gw := tw_mk 1119 (by decide +kernel) rfl
theorem tw_1120 : Cond.methodLink RX11 236 yX11_layStrands ∈ gw := tw_mk 1120 (by decide +kernel) rfl
theorem tw_1122 : Cond.instanceMethod yX11_layStrands ∈ gw := tw_mk 1122 (by decide +kernel) rfl
theorem tw_1123 : Cond.code yX11_layStrands cX11_layStrands 2 none ∈ gw := tw_mk 1123 (by decide +kernel) rfl
theorem tw_1124 : Cond.methodLink RX11 197 yX11_noStrands ∈ gw := tw_mk 1124 (by decide +kernel) rfl
theorem tw_1126 : Cond.instanceMethod yX11_noStrands ∈ gw := tw_mk 1126 (by decide +kernel) rfl
theorem tw_1127 : Cond.code yX11_noStrands cX11_noStrands 2 none ∈ gw := tw_mk 1127 (by decide +kernel) rfl
theorem tw_1128 : Cond.methodLink RX11 203 yX11_weakest ∈ gw := tw_mk 1128 (by decide +kernel) rfl
theorem tw_1130 : Cond.instanceMethod yX11_weakest ∈ gw := tw_mk 1130 (by decide +kernel) rfl
theorem tw_1131 : Cond.code yX11_weakest cX11_weakest 3 (some .int) ∈ gw := tw_mk 1131 (by decide +kernel) rfl
theorem tw_1132 : Cond.methodLink RX11 239 yX11_ropeBears ∈ gw := tw_mk 1132 (by decide +kernel) rfl
theorem tw_1134 : Cond.instanceMethod yX11_ropeBears ∈ gw := tw_mk 1134 (by decide +kernel) rfl
theorem tw_1135 : Cond.code yX11_ropeBears cX11_ropeBears 1 (some .int) ∈ gw := tw_mk 1135 (by decide +kernel) rfl
theorem tw_1136 : Cond.methodLink RL 72 yX11_year ∈ gw := tw_mk 1136 (by decide +kernel) rfl
theorem tw_1137 : Cond.instanceMethod yX11_year ∈ gw := tw_mk 1137 (by decide +kernel) rfl
theorem tw_1138 : Cond.selects RX11 yX11_year yX11_year ∈ gw := tw_mk 1138 (by decide +kernel) rfl
theorem tw_1139 : Cond.code yX11_year cX11_year 6 (some .int) ∈ gw := tw_mk 1139 (by decide +kernel) rfl
theorem tw_1140 : Cond.methodLink RX11 242 yX11_truthOf ∈ gw := tw_mk 1140 (by decide +kernel) rfl
theorem tw_1142 : Cond.instanceMethod yX11_truthOf ∈ gw := tw_mk 1142 (by decide +kernel) rfl
theorem tw_1143 : Cond.code yX11_truthOf cX11_truthOf 2 (some .int) ∈ gw := tw_mk 1143 (by decide +kernel) rfl
theorem tw_1144 : Cond.methodLink RL 76 yX11_undo ∈ gw := tw_mk 1144 (by decide +kernel) rfl
theorem tw_1145 : Cond.instanceMethod yX11_undo ∈ gw := tw_mk 1145 (by decide +kernel) rfl
theorem tw_1146 : Cond.selects RX11 yX11_undo yX11_undo ∈ gw := tw_mk 1146 (by decide +kernel) rfl
theorem tw_1147 : Cond.code yX11_undo cX11_undo 2 (some .int) ∈ gw := tw_mk 1147 (by decide +kernel) rfl
theorem tw_1148 : Cond.methodLink RL 80 yX11_yarn ∈ gw := tw_mk 1148 (by decide +kernel) rfl
theorem tw_1149 : Cond.instanceMethod yX11_yarn ∈ gw := tw_mk 1149 (by decide +kernel) rfl
theorem tw_1150 : Cond.selects RX11 yX11_yarn yX11_yarn ∈ gw := tw_mk 1150 (by decide +kernel) rfl
theorem tw_1151 : Cond.code yX11_yarn cX11_yarn 3 (some .int) ∈ gw := tw_mk 1151 (by decide +kernel) rfl
theorem tw_1152 : Cond.constantLong RX11 245 (6) ∈ gw := tw_mk 1152 (by decide +kernel) rfl
theorem tw_1153 : Cond.methodLink RL 84 yX11_bears ∈ gw := tw_mk 1153 (by decide +kernel) rfl
theorem tw_1154 : Cond.instanceMethod yX11_bears ∈ gw := tw_mk 1154 (by decide +kernel) rfl
theorem tw_1155 : Cond.selects RX11 yX11_bears yX11_bears ∈ gw := tw_mk 1155 (by decide +kernel) rfl
theorem tw_1156 : Cond.code yX11_bears cX11_bears 2 (some .int) ∈ gw := tw_mk 1156 (by decide +kernel) rfl
theorem tw_1157 : Cond.constantLong RX11 247 (3) ∈ gw := tw_mk 1157 (by decide +kernel) rfl
theorem tw_1158 : Cond.methodLink RL 88 yX11_best ∈ gw := tw_mk 1158 (by decide +kernel) rfl
theorem tw_1159 : Cond.instanceMethod yX11_best ∈ gw := tw_mk 1159 (by decide +kernel) rfl
theorem tw_1160 : Cond.selects RX11 yX11_best yX11_best ∈ gw := tw_mk 1160 (by decide +kernel) rfl
theorem tw_1161 : Cond.code yX11_best cX11_best 5 (some .int) ∈ gw := tw_mk 1161 (by decide +kernel) rfl
theorem tw_1162 : Cond.methodLink RX11 255 yX11_layBest ∈ gw := tw_mk 1162 (by decide +kernel) rfl
theorem tw_1164 : Cond.instanceMethod yX11_layBest ∈ gw := tw_mk 1164 (by decide +kernel) rfl
theorem tw_1165 : Cond.code yX11_layBest cX11_layBest 5 (some .int) ∈ gw := tw_mk 1165 (by decide +kernel) rfl
theorem tw_1166 : Cond.methodLink RX11 249 yX11_bearsBy ∈ gw := tw_mk 1166 (by decide +kernel) rfl
theorem tw_1168 : Cond.instanceMethod yX11_bearsBy ∈ gw := tw_mk 1168 (by decide +kernel) rfl
theorem tw_1169 : Cond.code yX11_bearsBy cX11_bearsBy 4 (some .int) ∈ gw := tw_mk 1169 (by decide +kernel) rfl
theorem tw_1170 : Cond.methodLink RL 92 yX11_cheapest ∈ gw := tw_mk 1170 (by decide +kernel) rfl
theorem tw_1171 : Cond.instanceMethod yX11_cheapest ∈ gw := tw_mk 1171 (by decide +kernel) rfl
theorem tw_1172 : Cond.selects RX11 yX11_cheapest yX11_cheapest ∈ gw := tw_mk 1172 (by decide +kernel) rfl
theorem tw_1173 : Cond.code yX11_cheapest cX11_cheapest 6 (some .int) ∈ gw := tw_mk 1173 (by decide +kernel) rfl
theorem tw_1174 : Cond.methodLink RX11 258 yX11_layTogether ∈ gw := tw_mk 1174 (by decide +kernel) rfl
theorem tw_1176 : Cond.instanceMethod yX11_layTogether ∈ gw := tw_mk 1176 (by decide +kernel) rfl
theorem tw_1177 : Cond.code yX11_layTogether cX11_layTogether 5 none ∈ gw := tw_mk 1177 (by decide +kernel) rfl
theorem tw_1178 : Cond.methodLink RX11 261 yX11_costOf ∈ gw := tw_mk 1178 (by decide +kernel) rfl
theorem tw_1180 : Cond.instanceMethod yX11_costOf ∈ gw := tw_mk 1180 (by decide +kernel) rfl
theorem tw_1181 : Cond.code yX11_costOf cX11_costOf 4 (some .int) ∈ gw := tw_mk 1181 (by decide +kernel) rfl
theorem tw_1182 : Cond.methodLink RL 96 yX11_odds ∈ gw := tw_mk 1182 (by decide +kernel) rfl
theorem tw_1183 : Cond.instanceMethod yX11_odds ∈ gw := tw_mk 1183 (by decide +kernel) rfl
theorem tw_1184 : Cond.selects RX11 yX11_odds yX11_odds ∈ gw := tw_mk 1184 (by decide +kernel) rfl
theorem tw_1185 : Cond.code yX11_odds cX11_odds 9 (some .int) ∈ gw := tw_mk 1185 (by decide +kernel) rfl
theorem tw_1186 : Cond.methodLink RX11 264 yX11_tenthsOf ∈ gw := tw_mk 1186 (by decide +kernel) rfl
theorem tw_1188 : Cond.instanceMethod yX11_tenthsOf ∈ gw := tw_mk 1188 (by decide +kernel) rfl
theorem tw_1189 : Cond.code yX11_tenthsOf cX11_tenthsOf 2 (some .int) ∈ gw := tw_mk 1189 (by decide +kernel) rfl
theorem tw_1190 : Cond.methodLink RX11 267 yX11_bearsIf ∈ gw := tw_mk 1190 (by decide +kernel) rfl
theorem tw_1192 : Cond.instanceMethod yX11_bearsIf ∈ gw := tw_mk 1192 (by decide +kernel) rfl
theorem tw_1193 : Cond.code yX11_bearsIf cX11_bearsIf 4 (some .int) ∈ gw := tw_mk 1193 (by decide +kernel) rfl
theorem tw_1194 : Cond.methodLink RL 100 yX11_risk ∈ gw := tw_mk 1194 (by decide +kernel) rfl
theorem tw_1195 : Cond.instanceMethod yX11_risk ∈ gw := tw_mk 1195 (by decide +kernel) rfl
theorem tw_1196 : Cond.selects RX11 yX11_risk yX11_risk ∈ gw := tw_mk 1196 (by decide +kernel) rfl
theorem tw_1197 : Cond.code yX11_risk cX11_risk 6 (some .int) ∈ gw := tw_mk 1197 (by decide +kernel) rfl
theorem tw_1198 : Cond.constantLong RX11 270 (40) ∈ gw := tw_mk 1198 (by decide +kernel) rfl
theorem tw_1199 : Cond.methodLink RL 104 yX11_whose ∈ gw := tw_mk 1199 (by decide +kernel) rfl
theorem tw_1200 : Cond.instanceMethod yX11_whose ∈ gw := tw_mk 1200 (by decide +kernel) rfl
theorem tw_1201 : Cond.selects RX11 yX11_whose yX11_whose ∈ gw := tw_mk 1201 (by decide +kernel) rfl
theorem tw_1202 : Cond.code yX11_whose cX11_whose 7 (some .int) ∈ gw := tw_mk 1202 (by decide +kernel) rfl
theorem tw_1203 : Cond.methodLink RL 108 yX11_geese ∈ gw := tw_mk 1203 (by decide +kernel) rfl
theorem tw_1204 : Cond.instanceMethod yX11_geese ∈ gw := tw_mk 1204 (by decide +kernel) rfl
theorem tw_1205 : Cond.selects RX11 yX11_geese yX11_geese ∈ gw := tw_mk 1205 (by decide +kernel) rfl
theorem tw_1206 : Cond.code yX11_geese cX11_geese 4 (some .int) ∈ gw := tw_mk 1206 (by decide +kernel) rfl
theorem tw_1207 : Cond.methodLink RL 112 yX11_fathoms ∈ gw := tw_mk 1207 (by decide +kernel) rfl
theorem tw_1208 : Cond.instanceMethod yX11_fathoms ∈ gw := tw_mk 1208 (by decide +kernel) rfl
theorem tw_1209 : Cond.selects RX11 yX11_fathoms yX11_fathoms ∈ gw := tw_mk 1209 (by decide +kernel) rfl
theorem tw_1210 : Cond.code yX11_fathoms cX11_fathoms 4 (some .int) ∈ gw := tw_mk 1210 (by decide +kernel) rfl
theorem tw_1211 : Cond.methodLink RX11 272 yX11_isSpeaker ∈ gw := tw_mk 1211 (by decide +kernel) rfl
theorem tw_1213 : Cond.instanceMethod yX11_isSpeaker ∈ gw := tw_mk 1213 (by decide +kernel) rfl
theorem tw_1214 : Cond.code yX11_isSpeaker cX11_isSpeaker 2 (some .boolean) ∈ gw := tw_mk 1214 (by decide +kernel) rfl
theorem tw_1215 : Cond.methodLink RL 116 yX11_image ∈ gw := tw_mk 1215 (by decide +kernel) rfl
theorem tw_1216 : Cond.instanceMethod yX11_image ∈ gw := tw_mk 1216 (by decide +kernel) rfl
theorem tw_1217 : Cond.selects RX11 yX11_image yX11_image ∈ gw := tw_mk 1217 (by decide +kernel) rfl
theorem tw_1218 : Cond.code yX11_image cX11_image 3 (some .int) ∈ gw := tw_mk 1218 (by decide +kernel) rfl
theorem tw_1219 : Cond.methodLink RL 120 yX11_restore ∈ gw := tw_mk 1219 (by decide +kernel) rfl
theorem tw_1220 : Cond.instanceMethod yX11_restore ∈ gw := tw_mk 1220 (by decide +kernel) rfl
theorem tw_1221 : Cond.selects RX11 yX11_restore yX11_restore ∈ gw := tw_mk 1221 (by decide +kernel) rfl
theorem tw_1222 : Cond.code yX11_restore cX11_restore 3 (some .int) ∈ gw := tw_mk 1222 (by decide +kernel) rfl
theorem tw_1223 : Cond.methodLink RL 124 yX11_kind ∈ gw := tw_mk 1223 (by decide +kernel) rfl
theorem tw_1224 : Cond.instanceMethod yX11_kind ∈ gw := tw_mk 1224 (by decide +kernel) rfl
theorem tw_1225 : Cond.selects RX11 yX11_kind yX11_kind ∈ gw := tw_mk 1225 (by decide +kernel) rfl
theorem tw_1226 : Cond.code yX11_kind cX11_kind 2 (some .int) ∈ gw := tw_mk 1226 (by decide +kernel) rfl
theorem tw_1227 : Cond.methodLink RL 128 yX11_as ∈ gw := tw_mk 1227 (by decide +kernel) rfl
theorem tw_1228 : Cond.instanceMethod yX11_as ∈ gw := tw_mk 1228 (by decide +kernel) rfl
theorem tw_1229 : Cond.selects RX11 yX11_as yX11_as ∈ gw := tw_mk 1229 (by decide +kernel) rfl
theorem tw_1230 : Cond.code yX11_as cX11_as 3 (some .int) ∈ gw := tw_mk 1230 (by decide +kernel) rfl
theorem tw_1231 : Cond.constantLong RX11 275 (5) ∈ gw := tw_mk 1231 (by decide +kernel) rfl
theorem tw_1232 : Cond.methodLink RX11 277 yX11_isOf ∈ gw := tw_mk 1232 (by decide +kernel) rfl
theorem tw_1233 : Cond.static yX11_isOf ∈ gw := tw_mk 1233 (by decide +kernel) rfl
theorem tw_1234 : Cond.code yX11_isOf cX11_isOf 2 (some .boolean) ∈ gw := tw_mk 1234 (by decide +kernel) rfl
theorem tw_1235 : Cond.methodLink RL 132 yX11_ask ∈ gw := tw_mk 1235 (by decide +kernel) rfl
theorem tw_1236 : Cond.instanceMethod yX11_ask ∈ gw := tw_mk 1236 (by decide +kernel) rfl
theorem tw_1237 : Cond.selects RX11 yX11_ask yX11_ask ∈ gw := tw_mk 1237 (by decide +kernel) rfl
theorem tw_1238 : Cond.code yX11_ask cX11_ask 3 (some .int) ∈ gw := tw_mk 1238 (by decide +kernel) rfl
theorem tw_1239 : Cond.methodLink RX11 296 yX11_sizeOf ∈ gw := tw_mk 1239 (by decide +kernel) rfl
theorem tw_1241 : Cond.instanceMethod yX11_sizeOf ∈ gw := tw_mk 1241 (by decide +kernel) rfl
theorem tw_1242 : Cond.code yX11_sizeOf cX11_sizeOf 4 (some .int) ∈ gw := tw_mk 1242 (by decide +kernel) rfl
theorem tw_1243 : Cond.methodLink RX11 290 yX11_lieSize ∈ gw := tw_mk 1243 (by decide +kernel) rfl
theorem tw_1245 : Cond.instanceMethod yX11_lieSize ∈ gw := tw_mk 1245 (by decide +kernel) rfl
theorem tw_1246 : Cond.code yX11_lieSize cX11_lieSize 3 (some .int) ∈ gw := tw_mk 1246 (by decide +kernel) rfl
theorem tw_1247 : Cond.methodLink RX11 284 yX11_began ∈ gw := tw_mk 1247 (by decide +kernel) rfl
theorem tw_1249 : Cond.instanceMethod yX11_began ∈ gw := tw_mk 1249 (by decide +kernel) rfl
theorem tw_1250 : Cond.code yX11_began cX11_began 2 none ∈ gw := tw_mk 1250 (by decide +kernel) rfl
theorem tw_1251 : Cond.methodLink RX11 287 yX11_plainSize ∈ gw := tw_mk 1251 (by decide +kernel) rfl
theorem tw_1253 : Cond.instanceMethod yX11_plainSize ∈ gw := tw_mk 1253 (by decide +kernel) rfl
theorem tw_1254 : Cond.code yX11_plainSize cX11_plainSize 2 (some .int) ∈ gw := tw_mk 1254 (by decide +kernel) rfl
theorem tw_1255 : Cond.methodLink RX11 293 yX11_markOf ∈ gw := tw_mk 1255 (by decide +kernel) rfl
theorem tw_1257 : Cond.instanceMethod yX11_markOf ∈ gw := tw_mk 1257 (by decide +kernel) rfl
theorem tw_1258 : Cond.code yX11_markOf cX11_markOf 4 (some .int) ∈ gw := tw_mk 1258 (by decide +kernel) rfl
theorem tw_1259 : Cond.methodLink RL 136 yX11_trace ∈ gw := tw_mk 1259 (by decide +kernel) rfl
theorem tw_1260 : Cond.instanceMethod yX11_trace ∈ gw := tw_mk 1260 (by decide +kernel) rfl
theorem tw_1261 : Cond.selects RX11 yX11_trace yX11_trace ∈ gw := tw_mk 1261 (by decide +kernel) rfl
theorem tw_1262 : Cond.code yX11_trace cX11_trace 2 (some .int) ∈ gw := tw_mk 1262 (by decide +kernel) rfl
theorem tw_1263 : Cond.methodLink RL 140 yX11_count ∈ gw := tw_mk 1263 (by decide +kernel) rfl
theorem tw_1264 : Cond.instanceMethod yX11_count ∈ gw := tw_mk 1264 (by decide +kernel) rfl
theorem tw_1265 : Cond.selects RX11 yX11_count yX11_count ∈ gw := tw_mk 1265 (by decide +kernel) rfl
theorem tw_1266 : Cond.code yX11_count cX11_count 4 (some .int) ∈ gw := tw_mk 1266 (by decide +kernel) rfl
theorem tw_1267 : Cond.methodLink RL 144 yX11_status ∈ gw := tw_mk 1267 (by decide +kernel) rfl
theorem tw_1268 : Cond.instanceMethod yX11_status ∈ gw := tw_mk 1268 (by decide +kernel) rfl
theorem tw_1269 : Cond.selects RX11 yX11_status yX11_status ∈ gw := tw_mk 1269 (by decide +kernel) rfl
theorem tw_1270 : Cond.code yX11_status cX11_status 1 (some .int) ∈ gw := tw_mk 1270 (by decide +kernel) rfl
theorem tw_1271 : Cond.constantLong RL 32 (4294967295) ∈ gw := tw_mk 1271 (by decide +kernel) rfl
theorem tw_1272 : Cond.fieldLink RJ0 9 "java/lang/String" "value" "[B" ∈ gw := tw_mk 1272 (by decide +kernel) rfl
theorem tw_1273 : Cond.fieldLink RJ0 15 "java/lang/String" "coder" "B" ∈ gw := tw_mk 1273 (by decide +kernel) rfl
theorem tw_0 : Cond.selects RX10 yX10_found yX10_found ∈ gw := tw_mk 0 (by decide +kernel) rfl
theorem tw_1 : Cond.selects RX10 yX10_foundNothing yX10_foundNothing ∈ gw := tw_mk 1 (by decide +kernel) rfl
theorem tw_2 : Cond.selects RX8 yX8_takeName yX8_takeName ∈ gw := tw_mk 2 (by decide +kernel) rfl
theorem tw_3 : Cond.selects RX8 yX8_takeNumber yX8_takeNumber ∈ gw := tw_mk 3 (by decide +kernel) rfl
theorem tw_4 : Cond.selects RX6 yX6_readLaw yX6_readLaw ∈ gw := tw_mk 4 (by decide +kernel) rfl
theorem tw_5 : Cond.selects RX6 yX6_takeNumber yX6_takeNumber ∈ gw := tw_mk 5 (by decide +kernel) rfl
theorem tw_6 : Cond.selects RX6 yX6_takeSign yX6_takeSign ∈ gw := tw_mk 6 (by decide +kernel) rfl
theorem tw_7 : Cond.selects RX6 yX6_readSpeaker yX6_readSpeaker ∈ gw := tw_mk 7 (by decide +kernel) rfl
theorem tw_8 : Cond.selects RX6 yX6_readYarn yX6_readYarn ∈ gw := tw_mk 8 (by decide +kernel) rfl
theorem tw_9 : Cond.selects RX6 yX6_takeSort yX6_takeSort ∈ gw := tw_mk 9 (by decide +kernel) rfl
theorem tw_10 : Cond.selects RX9 yX9_strandBearsWithout yX9_strandBearsWithout ∈ gw := tw_mk 10 (by decide +kernel) rfl
theorem tw_11 : Cond.selects RX2 yX2_layFrom yX2_layFrom ∈ gw := tw_mk 11 (by decide +kernel) rfl
theorem tw_12 : Cond.selects RX2 yX2_missing yX2_missing ∈ gw := tw_mk 12 (by decide +kernel) rfl
theorem tw_13 : Cond.selects RX3 yX3_fillBest yX3_fillBest ∈ gw := tw_mk 13 (by decide +kernel) rfl
theorem tw_14 : Cond.selects RX5 yX5_yearsFrom yX5_yearsFrom ∈ gw := tw_mk 14 (by decide +kernel) rfl
theorem tw_15 : Cond.selects RX5 yX5_divideByTwo yX5_divideByTwo ∈ gw := tw_mk 15 (by decide +kernel) rfl
theorem tw_16 : Cond.selects RX5 yX5_divideByFive yX5_divideByFive ∈ gw := tw_mk 16 (by decide +kernel) rfl
theorem tw_17 : Cond.selects RX1 yX1_give yX1_give ∈ gw := tw_mk 17 (by decide +kernel) rfl
theorem tw_18 : Cond.selects RX1 yX1_leave yX1_leave ∈ gw := tw_mk 18 (by decide +kernel) rfl
theorem tw_19 : Cond.selects RX11 yX11_finding yX11_finding ∈ gw := tw_mk 19 (by decide +kernel) rfl
theorem tw_20 : Cond.selects RX11 yX11_begin yX11_begin ∈ gw := tw_mk 20 (by decide +kernel) rfl
theorem tw_21 : Cond.selects RX11 yX11_next yX11_next ∈ gw := tw_mk 21 (by decide +kernel) rfl
theorem tw_22 : Cond.selects RX11 yX11_byteAt yX11_byteAt ∈ gw := tw_mk 22 (by decide +kernel) rfl
theorem tw_23 : Cond.selects RX11 yX11_name yX11_name ∈ gw := tw_mk 23 (by decide +kernel) rfl
theorem tw_24 : Cond.selects RX11 yX11_must yX11_must ∈ gw := tw_mk 24 (by decide +kernel) rfl
theorem tw_25 : Cond.selects RX11 yX11_bad yX11_bad ∈ gw := tw_mk 25 (by decide +kernel) rfl
theorem tw_26 : Cond.selects RX11 yX11_number yX11_number ∈ gw := tw_mk 26 (by decide +kernel) rfl
theorem tw_27 : Cond.selects RX11 yX11_figures yX11_figures ∈ gw := tw_mk 27 (by decide +kernel) rfl
theorem tw_28 : Cond.selects RX11 yX11_mustEnd yX11_mustEnd ∈ gw := tw_mk 28 (by decide +kernel) rfl
theorem tw_29 : Cond.selects RX11 yX11_readSpeaker yX11_readSpeaker ∈ gw := tw_mk 29 (by decide +kernel) rfl
theorem tw_30 : Cond.selects RX11 yX11_begins yX11_begins ∈ gw := tw_mk 30 (by decide +kernel) rfl
theorem tw_31 : Cond.selects RX11 yX11_readYarn yX11_readYarn ∈ gw := tw_mk 31 (by decide +kernel) rfl
theorem tw_32 : Cond.selects RX11 yX11_isYarn yX11_isYarn ∈ gw := tw_mk 32 (by decide +kernel) rfl
theorem tw_33 : Cond.selects RX11 yX11_keep yX11_keep ∈ gw := tw_mk 33 (by decide +kernel) rfl
theorem tw_34 : Cond.selects RX11 yX11_of yX11_of ∈ gw := tw_mk 34 (by decide +kernel) rfl
theorem tw_35 : Cond.selects RX11 yX11_becomes yX11_becomes ∈ gw := tw_mk 35 (by decide +kernel) rfl
theorem tw_36 : Cond.selects RX11 yX11_strength yX11_strength ∈ gw := tw_mk 36 (by decide +kernel) rfl
theorem tw_37 : Cond.selects RX11 yX11_strengthBy yX11_strengthBy ∈ gw := tw_mk 37 (by decide +kernel) rfl
theorem tw_38 : Cond.selects RX11 yX11_priceOf yX11_priceOf ∈ gw := tw_mk 38 (by decide +kernel) rfl
theorem tw_39 : Cond.selects RX11 yX11_draw yX11_draw ∈ gw := tw_mk 39 (by decide +kernel) rfl
theorem tw_40 : Cond.selects RX11 yX11_layStrands yX11_layStrands ∈ gw := tw_mk 40 (by decide +kernel) rfl
theorem tw_41 : Cond.selects RX11 yX11_noStrands yX11_noStrands ∈ gw := tw_mk 41 (by decide +kernel) rfl
theorem tw_42 : Cond.selects RX11 yX11_weakest yX11_weakest ∈ gw := tw_mk 42 (by decide +kernel) rfl
theorem tw_43 : Cond.selects RX11 yX11_ropeBears yX11_ropeBears ∈ gw := tw_mk 43 (by decide +kernel) rfl
theorem tw_44 : Cond.selects RX11 yX11_truthOf yX11_truthOf ∈ gw := tw_mk 44 (by decide +kernel) rfl
theorem tw_45 : Cond.selects RX11 yX11_layBest yX11_layBest ∈ gw := tw_mk 45 (by decide +kernel) rfl
theorem tw_46 : Cond.selects RX11 yX11_bearsBy yX11_bearsBy ∈ gw := tw_mk 46 (by decide +kernel) rfl
theorem tw_47 : Cond.selects RX11 yX11_layTogether yX11_layTogether ∈ gw := tw_mk 47 (by decide +kernel) rfl
theorem tw_48 : Cond.selects RX11 yX11_costOf yX11_costOf ∈ gw := tw_mk 48 (by decide +kernel) rfl
theorem tw_49 : Cond.selects RX11 yX11_tenthsOf yX11_tenthsOf ∈ gw := tw_mk 49 (by decide +kernel) rfl
theorem tw_50 : Cond.selects RX11 yX11_bearsIf yX11_bearsIf ∈ gw := tw_mk 50 (by decide +kernel) rfl
theorem tw_51 : Cond.selects RX11 yX11_isSpeaker yX11_isSpeaker ∈ gw := tw_mk 51 (by decide +kernel) rfl
theorem tw_52 : Cond.selects RX11 yX11_sizeOf yX11_sizeOf ∈ gw := tw_mk 52 (by decide +kernel) rfl
theorem tw_53 : Cond.selects RX11 yX11_lieSize yX11_lieSize ∈ gw := tw_mk 53 (by decide +kernel) rfl
theorem tw_54 : Cond.selects RX11 yX11_began yX11_began ∈ gw := tw_mk 54 (by decide +kernel) rfl
theorem tw_55 : Cond.selects RX11 yX11_plainSize yX11_plainSize ∈ gw := tw_mk 55 (by decide +kernel) rfl
theorem tw_56 : Cond.selects RX11 yX11_markOf yX11_markOf ∈ gw := tw_mk 56 (by decide +kernel) rfl
theorem mem_by {big : List Cond} (ws : List Cond) (ps : List Nat) (h : ws.map some = ps.map (fun i => big[i]?)) : ∀ w ∈ ws, w ∈ big := by
  intro w hw
  have h1 : some w ∈ ps.map (fun i => big[i]?) := by rw [← h]; exact List.mem_map.mpr ⟨w, hw, rfl⟩
  obtain ⟨i, -, hi⟩ := List.mem_map.mp h1
  exact List.mem_of_getElem? hi
theorem inX0 : ∀ w ∈ wsX00, w ∈ gw := fun w h => List.mem_filter.mpr ⟨mem_by _ [222, 224, 226] (by decide +kernel) w h, List.all_eq_true.mp (show (wsX00).all goodWord = true by decide +kernel) w h⟩
theorem inX1 : ∀ w ∈ wsX10, w ∈ gw := fun w h => List.mem_filter.mpr ⟨mem_by _ [303, 305] (by decide +kernel) w h, List.all_eq_true.mp (show (wsX10).all goodWord = true by decide +kernel) w h⟩
theorem inX2 : ∀ w ∈ wsX20, w ∈ gw := fun w h => List.mem_filter.mpr ⟨mem_by _ [244, 246, 248, 250, 252, 254, 256] (by decide +kernel) w h, List.all_eq_true.mp (show (wsX20).all goodWord = true by decide +kernel) w h⟩
theorem inX3 : ∀ w ∈ wsX30, w ∈ gw := fun w h => List.mem_filter.mpr ⟨mem_by _ [267, 269] (by decide +kernel) w h, List.all_eq_true.mp (show (wsX30).all goodWord = true by decide +kernel) w h⟩
theorem inX5 : ∀ w ∈ wsX50, w ∈ gw := fun w h => List.mem_filter.mpr ⟨mem_by _ [284, 286, 288, 290] (by decide +kernel) w h, List.all_eq_true.mp (show (wsX50).all goodWord = true by decide +kernel) w h⟩
theorem inX6 : ∀ w ∈ wsX60, w ∈ gw := fun w h => List.mem_filter.mpr ⟨mem_by _ [142, 144] (by decide +kernel) w h, List.all_eq_true.mp (show (wsX60).all goodWord = true by decide +kernel) w h⟩
theorem inX7 : ∀ w ∈ wsX70, w ∈ gw := fun w h => List.mem_filter.mpr ⟨mem_by _ [94, 96, 98] (by decide +kernel) w h, List.all_eq_true.mp (show (wsX70).all goodWord = true by decide +kernel) w h⟩
theorem inX8 : ∀ w ∈ wsX80, w ∈ gw := fun w h => List.mem_filter.mpr ⟨mem_by _ [124, 126, 128, 130, 132, 134] (by decide +kernel) w h, List.all_eq_true.mp (show (wsX80).all goodWord = true by decide +kernel) w h⟩
theorem inX9 : ∀ w ∈ wsX90, w ∈ gw := fun w h => List.mem_filter.mpr ⟨mem_by _ [188, 190, 192, 194, 196, 198, 200, 202, 204, 206, 208] (by decide +kernel) w h, List.all_eq_true.mp (show (wsX90).all goodWord = true by decide +kernel) w h⟩
theorem inX10 : ∀ w ∈ wsX100, w ∈ gw := fun w h => List.mem_filter.mpr ⟨mem_by _ [320, 322, 324, 326, 328, 330, 332, 334, 336, 338, 340, 342] (by decide +kernel) w h, List.all_eq_true.mp (show (wsX100).all goodWord = true by decide +kernel) w h⟩
theorem inX11 : ∀ w ∈ wsX110, w ∈ gw := fun w h => List.mem_filter.mpr ⟨mem_by _ [884, 886, 888, 890, 892, 894, 896, 898, 900, 902, 904, 906, 908, 910, 912, 914, 916, 918, 920, 922, 924, 926, 928, 930, 932, 934, 936, 938, 940] (by decide +kernel) w h, List.all_eq_true.mp (show (wsX110).all goodWord = true by decide +kernel) w h⟩
theorem tbl_gi : GoodIn gw gw := fun w h => ⟨h, good_of_word (List.mem_filter.mp h).2⟩
end
section
/-- the ints of the world by cell and place; the one long; which images are kept -/
abbrev Sg : Type := (Nat → Nat → Int32) × Int64 × (Nat → Bool)
/-- where the world lies: classes and slots, array classes, addresses of cells, which cells are there, static rows, texts -/
abbrev En : Type := va_G × (Nat → ClassId) × (Nat → Nat) × List Nat × (Nat → Nat) × (Nat → Nat) × (Nat → Nat)
abbrev eD (E : En) : va_G := E.1
abbrev eY (E : En) : Nat → ClassId := E.2.1
abbrev eA (E : En) : Nat → Nat := E.2.2.1
abbrev eL (E : En) : List Nat := E.2.2.2.1
abbrev eT (E : En) : Nat → Nat := E.2.2.2.2.1
abbrev eK (E : En) : Nat → Nat := E.2.2.2.2.2.1
abbrev eV (E : En) : Nat → Nat := E.2.2.2.2.2.2
def scel (σ : Sg) (c : Nat) (f : Nat → Int32) : Sg := (fun k => if k = c then f else σ.1 k, σ.2)
def sup (σ : Sg) (c j : Nat) (v : Int32) : Sg := scel σ c (upd (σ.1 c) j v)
def slg (σ : Sg) (v : Int64) : Sg := (σ.1, v, σ.2.2)
def sfl (σ : Sg) (j : Nat) : Sg := (σ.1, σ.2.1, fun k => if k = j then true else σ.2.2 k)
/-- an item of a row, a field -/
def ga (σ : Sg) (c : Nat) (i : Int32) : Int32 := σ.1 c i.toNatClampNeg
def gf (σ : Sg) (c j : Nat) : Int32 := σ.1 c j
def sa (σ : Sg) (c : Nat) (i v : Int32) : Sg := sup σ c i.toNatClampNeg v
def irm (x y : Int32) : Int32 := x - x / y * y
def lrm (x y : Int64) : Int64 := x - x / y * y
def jmax (x y : Int32) : Int32 := if x < y then y else x
def jmin (x y : Int32) : Int32 := if y < x then y else x
def jshl (x y : Int32) : Int32 := x <<< (y &&& 31)
def jshr (x y : Int32) : Int32 := x >>> (y &&& 31)
def jushr (x y : Int32) : Int32 := (x.toUInt32 >>> (y.toUInt32 &&& Int32.toUInt32 31)).toInt32
def jlshl (x : Int64) (y : Int32) : Int64 := x <<< (y.toInt64 &&& 63)
def jlshr (x : Int64) (y : Int32) : Int64 := x >>> (y.toInt64 &&& 63)
def i2b (x : Int32) : Int32 := x.toInt8.toInt32
def i2s (x : Int32) : Int32 := x.toInt16.toInt32
def i2c (x : Int32) : Int32 := (x.toUInt32 % 65536).toInt32
def inb (i : Int32) (n : Nat) : Bool := decide (¬ (i < 0 ∨ n ≤ i.toNatClampNeg))
def isz (x : Int32) : Bool := decide (x = 0 ∨ x = 1)
def gd {α : Type} (b : Bool) (x : Option α) : Option α := if b = true then x else none
theorem gd_some {α : Type} {b : Bool} {x : Option α} {o : α} (h : gd b x = some o) : b = true ∧ x = some o := by
  cases b with
  | true => exact ⟨rfl, h⟩
  | false => cases h
theorem bd_some {α β : Type} {x : Option α} {f : α → Option β} {o : β} (h : x.bind f = some o) : ∃ a, x = some a ∧ f a = some o := by
  cases x with
  | none => cases h
  | some a => exact ⟨a, rfl, h⟩
theorem inb_vp {i : Int32} {n : Nat} (h : inb i n = true) : vp_in i n := show ¬ (i < 0 ∨ n ≤ i.toNatClampNeg) from of_decide_eq_true h
/-- a loop: a body that goes round (inl) or leaves (inr) -/
def lpO {S O : Type} (f : S → Option (S ⊕ O)) : Nat → S → Option O
  | 0, _ => none
  | n + 1, s => (f s).bind (fun r => match r with
    | .inl s1 => lpO f n s1
    | .inr o => some o)
theorem lp_rule {S O : Type} {f : S → Option (S ⊕ O)} {P : S → Prop} {K : O → Prop} (h : ∀ s r, f s = some r → (match r with | .inl s1 => P s1 | .inr o => K o) → P s) : ∀ (n : Nat) (s : S) (o : O), lpO f n s = some o → K o → P s
  | 0, _, _, hf, _ => by cases hf
  | n + 1, s, o, hf, hk => by
    obtain ⟨r, h1, h2⟩ := bd_some hf
    cases r with
    | inl s1 => exact h s _ h1 (lp_rule h n s1 o h2 hk)
    | inr o1 => cases h2; exact h s _ h1 hk
def ltab : List (Nat × Nat × List Nat) := [(0, 9, [3, 7, 10, 17, 24, 25, 27, 33, 36, 38, 0, 0]), (0, 6, [4, 5, 6]), (1, 8, []), (1, 8, []), (1, 320, []), (0, 5, [8, 0]), (0, 7, [9, 0, 0, 0, 0, 0]), (2, 400, []), (0, 8, [0, 0, 0, 0, 0, 11, 12, 13, 14, 15, 16]), (1, 5, []), (1, 5, []), (1, 9, []), (1, 9, []), (1, 9, []), (1, 36, []), (0, 8, [0, 0, 0, 0, 0, 18, 19, 20, 21, 22, 23]), (1, 5, []), (1, 5, []), (1, 9, []), (1, 9, []), (1, 9, []), (1, 36, []), (4, 2, []), (0, 0, [26, 0, 0]), (1, 864, []), (0, 2, [28, 29, 30, 31, 0, 32, 0]), (1, 9, []), (1, 10, []), (1, 3, []), (1, 9, []), (1, 9, []), (0, 3, [34, 35]), (1, 9, []), (1, 512, []), (0, 4, [37, 0, 0, 0]), (1, 3, []), (0, 1, [39, 0]), (1, 16, []), (0, 10, [0, 0, 41, 42, 43, 44, 45, 0, 46, 0, 47, 0, 0, 0, 0, 0, 0, 0, 0, 0, 48, 1, 0, 49, 50, 51, 52, 53, 0]), (1, 8, []), (1, 8, []), (1, 320, []), (1, 77, []), (1, 77, []), (1, 1848, []), (1, 400, []), (1, 3, []), (1, 512, []), (1, 512, []), (3, 2, []), (1, 154, []), (1, 16, []), (0, 8, [0, 0, 0, 0, 0, 55, 56, 57, 58, 59, 60]), (1, 5, []), (1, 5, []), (1, 9, []), (1, 9, []), (1, 9, []), (1, 36, []), (0, 8, [0, 0, 0, 0, 0, 62, 63, 64, 65, 66, 67]), (1, 5, []), (1, 5, []), (1, 9, []), (1, 9, []), (1, 9, []), (1, 36, [])]
def lkt (c : Nat) : Nat × Nat × List Nat := ltab.getD c (9, 0, [])
theorem lk_0 : lkt 0 = (0, 9, [3, 7, 10, 17, 24, 25, 27, 33, 36, 38, 0, 0]) := rfl
theorem lk_1 : lkt 1 = (0, 6, [4, 5, 6]) := rfl
theorem lk_2 : lkt 2 = (1, 8, []) := rfl
theorem lk_3 : lkt 3 = (1, 8, []) := rfl
theorem lk_4 : lkt 4 = (1, 320, []) := rfl
theorem lk_5 : lkt 5 = (0, 5, [8, 0]) := rfl
theorem lk_6 : lkt 6 = (0, 7, [9, 0, 0, 0, 0, 0]) := rfl
theorem lk_7 : lkt 7 = (2, 400, []) := rfl
theorem lk_8 : lkt 8 = (0, 8, [0, 0, 0, 0, 0, 11, 12, 13, 14, 15, 16]) := rfl
theorem lk_9 : lkt 9 = (1, 5, []) := rfl
theorem lk_10 : lkt 10 = (1, 5, []) := rfl
theorem lk_11 : lkt 11 = (1, 9, []) := rfl
theorem lk_12 : lkt 12 = (1, 9, []) := rfl
theorem lk_13 : lkt 13 = (1, 9, []) := rfl
theorem lk_14 : lkt 14 = (1, 36, []) := rfl
theorem lk_15 : lkt 15 = (0, 8, [0, 0, 0, 0, 0, 18, 19, 20, 21, 22, 23]) := rfl
theorem lk_16 : lkt 16 = (1, 5, []) := rfl
theorem lk_17 : lkt 17 = (1, 5, []) := rfl
theorem lk_18 : lkt 18 = (1, 9, []) := rfl
theorem lk_19 : lkt 19 = (1, 9, []) := rfl
theorem lk_20 : lkt 20 = (1, 9, []) := rfl
theorem lk_21 : lkt 21 = (1, 36, []) := rfl
theorem lk_22 : lkt 22 = (4, 2, []) := rfl
theorem lk_23 : lkt 23 = (0, 0, [26, 0, 0]) := rfl
theorem lk_24 : lkt 24 = (1, 864, []) := rfl
theorem lk_25 : lkt 25 = (0, 2, [28, 29, 30, 31, 0, 32, 0]) := rfl
theorem lk_26 : lkt 26 = (1, 9, []) := rfl
theorem lk_27 : lkt 27 = (1, 10, []) := rfl
theorem lk_28 : lkt 28 = (1, 3, []) := rfl
theorem lk_29 : lkt 29 = (1, 9, []) := rfl
theorem lk_30 : lkt 30 = (1, 9, []) := rfl
theorem lk_31 : lkt 31 = (0, 3, [34, 35]) := rfl
theorem lk_32 : lkt 32 = (1, 9, []) := rfl
theorem lk_33 : lkt 33 = (1, 512, []) := rfl
theorem lk_34 : lkt 34 = (0, 4, [37, 0, 0, 0]) := rfl
theorem lk_35 : lkt 35 = (1, 3, []) := rfl
theorem lk_36 : lkt 36 = (0, 1, [39, 0]) := rfl
theorem lk_37 : lkt 37 = (1, 16, []) := rfl
theorem lk_38 : lkt 38 = (0, 10, [0, 0, 41, 42, 43, 44, 45, 0, 46, 0, 47, 0, 0, 0, 0, 0, 0, 0, 0, 0, 48, 1, 0, 49, 50, 51, 52, 53, 0]) := rfl
theorem lk_39 : lkt 39 = (1, 8, []) := rfl
theorem lk_40 : lkt 40 = (1, 8, []) := rfl
theorem lk_41 : lkt 41 = (1, 320, []) := rfl
theorem lk_42 : lkt 42 = (1, 77, []) := rfl
theorem lk_43 : lkt 43 = (1, 77, []) := rfl
theorem lk_44 : lkt 44 = (1, 1848, []) := rfl
theorem lk_45 : lkt 45 = (1, 400, []) := rfl
theorem lk_46 : lkt 46 = (1, 3, []) := rfl
theorem lk_47 : lkt 47 = (1, 512, []) := rfl
theorem lk_48 : lkt 48 = (1, 512, []) := rfl
theorem lk_49 : lkt 49 = (3, 2, []) := rfl
theorem lk_50 : lkt 50 = (1, 154, []) := rfl
theorem lk_51 : lkt 51 = (1, 16, []) := rfl
theorem lk_52 : lkt 52 = (0, 8, [0, 0, 0, 0, 0, 55, 56, 57, 58, 59, 60]) := rfl
theorem lk_53 : lkt 53 = (1, 5, []) := rfl
theorem lk_54 : lkt 54 = (1, 5, []) := rfl
theorem lk_55 : lkt 55 = (1, 9, []) := rfl
theorem lk_56 : lkt 56 = (1, 9, []) := rfl
theorem lk_57 : lkt 57 = (1, 9, []) := rfl
theorem lk_58 : lkt 58 = (1, 36, []) := rfl
theorem lk_59 : lkt 59 = (0, 8, [0, 0, 0, 0, 0, 62, 63, 64, 65, 66, 67]) := rfl
theorem lk_60 : lkt 60 = (1, 5, []) := rfl
theorem lk_61 : lkt 61 = (1, 5, []) := rfl
theorem lk_62 : lkt 62 = (1, 9, []) := rfl
theorem lk_63 : lkt 63 = (1, 9, []) := rfl
theorem lk_64 : lkt 64 = (1, 9, []) := rfl
theorem lk_65 : lkt 65 = (1, 36, []) := rfl
def fvl (E : En) (σ : Sg) (c j : Nat) (k : Nat) : Value := match k with
  | 0 => .int (σ.1 c j)
  | 1 => .long σ.2.1
  | q + 2 => .ref (eA E q)
def fvs (E : En) (σ : Sg) (c : Nat) : Nat → List Nat → List Value
  | _, [] => []
  | j, k :: r => fvl E σ c j k :: fvs E σ c (j + 1) r
def lay (E : En) (σ : Sg) (c : Nat) : va_E := match lkt c with
  | (0, ci, fl) => .inr (ci, fvs E σ c 0 fl)
  | (1, n, _) => .inl (eY E 0, n, .inl (σ.1 c))
  | (2, n, _) => .inl (eY E 1, n, .inl (σ.1 c))
  | (3, n, _) => .inl (eY E 2, n, .inl (σ.1 c))
  | (_, n, _) => .inl (eY E 3, n, .inr (.inr (.inr (.inr (fun j => if σ.2.2 j = true then some (eA E (52 + 7 * j)) else none)))))
def wl (E : En) (σ : Sg) : va_W := (eL E).map (fun c => (eA E c, lay E σ c))
theorem lay_obj {E : En} {σ : Sg} {c ci : Nat} {fl : List Nat} (h : lkt c = (0, ci, fl)) : lay E σ c = .inr (ci, fvs E σ c 0 fl) := by unfold lay; rw [h]; rfl
theorem lay_int {E : En} {σ : Sg} {c n : Nat} {fl : List Nat} (h : lkt c = (1, n, fl)) : lay E σ c = .inl (eY E 0, n, .inl (σ.1 c)) := by unfold lay; rw [h]; rfl
theorem lay_byte {E : En} {σ : Sg} {c n : Nat} {fl : List Nat} (h : lkt c = (2, n, fl)) : lay E σ c = .inl (eY E 1, n, .inl (σ.1 c)) := by unfold lay; rw [h]; rfl
theorem lay_bool {E : En} {σ : Sg} {c n : Nat} {fl : List Nat} (h : lkt c = (3, n, fl)) : lay E σ c = .inl (eY E 2, n, .inl (σ.1 c)) := by unfold lay; rw [h]; rfl
theorem fvs_get {E : En} {σ : Sg} {c : Nat} : ∀ (fl : List Nat) (j i k : Nat), fl[i]? = some k → (fvs E σ c j fl)[i]? = some (fvl E σ c (j + i) k)
  | [], j, i, k, h => by simp at h
  | q :: r, j, 0, k, h => by
    simp only [List.getElem?_cons_zero, Option.some.injEq] at h
    subst h
    rfl
  | q :: r, j, i + 1, k, h => by
    rw [List.getElem?_cons_succ] at h
    have := fvs_get (E := E) (σ := σ) (c := c) r (j + 1) i k h
    show (fvs E σ c (j + 1) r)[i]? = _
    rw [this]
    congr 2
    omega
theorem fvs_congr {E : En} {σ τ : Sg} {c : Nat} : ∀ (fl : List Nat) (j : Nat), (∀ i, i < fl.length → σ.1 c (j + i) = τ.1 c (j + i)) → (σ.2.1 = τ.2.1 ∨ 1 ∉ fl) → fvs E σ c j fl = fvs E τ c j fl
  | [], _, _, _ => rfl
  | k :: r, j, h, hl => by
    have h0 : σ.1 c j = τ.1 c j := h 0 (by simp)
    have hr := fvs_congr (E := E) (σ := σ) (τ := τ) (c := c) r (j + 1) (fun i hi => by have := h (i + 1) (by simp; omega); rw [show j + 1 + i = j + (i + 1) by omega]; exact this) (hl.imp id (fun z q => z (List.mem_cons_of_mem _ q)))
    show fvl E σ c j k :: _ = fvl E τ c j k :: _
    rw [hr]
    congr 1
    match k with
    | 0 => show Value.int _ = Value.int _; rw [h0]
    | 1 =>
      show Value.long _ = Value.long _
      rcases hl with hl | hl
      · rw [hl]
      · exact absurd List.mem_cons_self hl
    | q + 2 => rfl
theorem fvs_len {E : En} {σ : Sg} {c : Nat} : ∀ (fl : List Nat) (j : Nat), (fvs E σ c j fl).length = fl.length
  | [], _ => rfl
  | _ :: r, j => by show (fvs E σ c (j + 1) r).length + 1 = r.length + 1; rw [fvs_len r (j + 1)]
theorem lay_congr {E : En} {σ τ : Sg} {c : Nat} (h1 : σ.1 c = τ.1 c) (h2 : σ.2.1 = τ.2.1 ∨ 1 ∉ (lkt c).2.2) (h3 : σ.2.2 = τ.2.2) : lay E σ c = lay E τ c := by
  unfold lay
  split
  · rename_i ci fl h
    rw [fvs_congr (τ := τ) fl 0 (fun i _ => by rw [h1]) (by rw [h] at h2; exact h2)]
  · rw [h1]
  · rw [h1]
  · rw [h1]
  · rw [h3]
theorem wl_at {E : En} {σ : Sg} {c : Nat} (h : c ∈ eL E) : ∃ i : Nat, (eL E)[i]? = some c ∧ (wl E σ)[i]? = some (eA E c, lay E σ c) := by
  obtain ⟨i, hi⟩ := List.getElem?_of_mem h
  exact ⟨i, hi, by unfold wl; rw [List.getElem?_map, hi]; rfl⟩
theorem wl_inv {E : En} {σ : Sg} {i : Nat} {q : Nat × va_E} (h : (wl E σ)[i]? = some q) : ∃ c, (eL E)[i]? = some c ∧ q = (eA E c, lay E σ c) := by
  unfold wl at h
  rw [List.getElem?_map] at h
  cases hc : (eL E)[i]? with
  | none => rw [hc] at h; cases h
  | some c => rw [hc] at h; cases h; exact ⟨c, rfl, rfl⟩
theorem wl_D {E : En} {σ τ : Sg} {A : Nat → Prop} (h : va_D A (wl E σ)) : va_D A (wl E τ) := by
  have key : ∀ (i : Nat) (q : Nat × va_E), (wl E τ)[i]? = some q → ∃ q0, (wl E σ)[i]? = some q0 ∧ q0.1 = q.1 := by
    intro i q hq
    obtain ⟨c, hc, rfl⟩ := wl_inv hq
    exact ⟨(eA E c, lay E σ c), by unfold wl; rw [List.getElem?_map, hc]; rfl, rfl⟩
  refine ⟨fun i j x y hi hj hxy => ?_, fun k q hk => ?_⟩
  · obtain ⟨x0, h1, h2⟩ := key i x hi
    obtain ⟨y0, h3, h4⟩ := key j y hj
    exact h.1 i j x0 y0 h1 h3 (h2.trans (hxy.trans h4.symm))
  · obtain ⟨q0, h1, h2⟩ := key k q hk
    rw [← h2]
    exact h.2 k q0 h1
theorem wl_set {E : En} {σ τ : Sg} {A : Nat → Prop} {c i : Nat} {e : va_E} (hD : va_D A (wl E σ)) (hi : (eL E)[i]? = some c) (he : e = lay E τ c) (ho : ∀ k, k ∈ eL E → k ≠ c → lay E τ k = lay E σ k) : (wl E σ).set i (eA E c, e) = wl E τ := by
  subst he
  apply List.ext_getElem?
  intro k
  by_cases hk : k = i
  · subst hk
    have hl : k < (wl E σ).length := by unfold wl; rw [List.length_map]; exact (List.getElem?_eq_some_iff.mp hi).1
    rw [List.getElem?_set_self hl]
    unfold wl
    rw [List.getElem?_map, hi]
    rfl
  · rw [List.getElem?_set_ne (Ne.symm hk)]
    unfold wl
    rw [List.getElem?_map, List.getElem?_map]
    cases hc : (eL E)[k]? with
    | none => rfl
    | some d =>
      have hne : d ≠ c := by
        intro z
        subst z
        exact hk (hD.1 k i (eA E d, lay E σ d) (eA E d, lay E σ d) (by unfold wl; rw [List.getElem?_map, hc]; rfl) (by unfold wl; rw [List.getElem?_map, hi]; rfl) rfl)
      show some (eA E d, lay E σ d) = some (eA E d, lay E τ d)
      rw [ho d (List.mem_of_getElem? hc) hne]
theorem scel_same {σ : Sg} {c : Nat} {f : Nat → Int32} : (scel σ c f).1 c = f := if_pos rfl
theorem scel_ne {σ : Sg} {c k : Nat} {f : Nat → Int32} (h : k ≠ c) : (scel σ c f).1 k = σ.1 k := if_neg h
theorem lay_scel {E : En} {σ : Sg} {c : Nat} {f : Nat → Int32} : ∀ k, k ∈ eL E → k ≠ c → lay E (scel σ c f) k = lay E σ k := fun _ _ h => lay_congr (scel_ne h) (Or.inl rfl) rfl
theorem fvs_put {E : En} {σ : Sg} {c : Nat} {v : Int32} : ∀ (fl : List Nat) (j i : Nat), fl[i]? = some 0 → (fvs E σ c j fl).set i (.int v) = fvs E (sup σ c (j + i) v) c j fl
  | [], j, i, h => by simp at h
  | q :: r, j, 0, h => by
    simp only [List.getElem?_cons_zero, Option.some.injEq] at h
    subst h
    show Value.int v :: fvs E σ c (j + 1) r = Value.int ((sup σ c j v).1 c j) :: fvs E (sup σ c j v) c (j + 1) r
    rw [show (sup σ c j v).1 c j = v by unfold sup; rw [scel_same]; simp [upd]]
    have hc : fvs E σ c (j + 1) r = fvs E (sup σ c j v) c (j + 1) r := fvs_congr r (j + 1) (fun i _ => by unfold sup; rw [scel_same]; simp only [upd]; rw [if_neg (by omega)]) (Or.inl rfl)
    rw [hc]
  | q :: r, j, i + 1, h => by
    rw [List.getElem?_cons_succ] at h
    have hr := fvs_put (E := E) (σ := σ) (c := c) (v := v) r (j + 1) i h
    show fvl E σ c j q :: (fvs E σ c (j + 1) r).set i (.int v) = fvl E (sup σ c (j + (i + 1)) v) c j q :: fvs E (sup σ c (j + (i + 1)) v) c (j + 1) r
    rw [hr, show j + 1 + i = j + (i + 1) by omega]
    congr 1
    match q with
    | 0 =>
      show Value.int _ = Value.int _
      unfold sup
      rw [scel_same]
      simp only [upd]
      rw [if_neg (by omega)]
    | 1 => rfl
    | q + 2 => rfl
theorem lkt_long : ∀ c, c ≠ 38 → 1 ∉ (lkt c).2.2 := by
  intro c hc
  by_cases h : c < 66
  · have key : ∀ c, c < 66 → c ≠ 38 → 1 ∉ (lkt c).2.2 := by decide +kernel
    exact key c h hc
  · have : lkt c = (9, 0, []) := by
      unfold lkt
      rw [List.getD_eq_getElem?_getD, List.getElem?_eq_none (by show ltab.length ≤ c; have : ltab.length = 66 := rfl; omega)]
      rfl
    rw [this]
    simp
theorem fvs_putL {E : En} {σ : Sg} {c : Nat} {v : Int64} : ∀ (fl : List Nat) (j i : Nat), fl[i]? = some 1 → (∀ k, fl[k]? = some 1 → k = i) → (fvs E σ c j fl).set i (.long v) = fvs E (slg σ v) c j fl
  | [], j, i, h, _ => by simp at h
  | q :: r, j, 0, h, hu => by
    simp only [List.getElem?_cons_zero, Option.some.injEq] at h
    subst h
    show Value.long v :: fvs E σ c (j + 1) r = Value.long v :: fvs E (slg σ v) c (j + 1) r
    have hc : fvs E σ c (j + 1) r = fvs E (slg σ v) c (j + 1) r := fvs_congr r (j + 1) (fun i _ => rfl) (Or.inr (fun z => by
      obtain ⟨k, hk⟩ := List.getElem?_of_mem z
      have := hu (k + 1) (by rw [List.getElem?_cons_succ]; exact hk)
      omega))
    rw [hc]
  | q :: r, j, i + 1, h, hu => by
    rw [List.getElem?_cons_succ] at h
    have hr := fvs_putL (E := E) (σ := σ) (c := c) (v := v) r (j + 1) i h (fun k hk => by have := hu (k + 1) (by rw [List.getElem?_cons_succ]; exact hk); omega)
    show fvl E σ c j q :: (fvs E σ c (j + 1) r).set i (.long v) = fvl E (slg σ v) c j q :: fvs E (slg σ v) c (j + 1) r
    rw [hr]
    congr 1
    match q, hu with
    | 0, _ => rfl
    | 1, hu => exact absurd (hu 0 rfl) (by omega)
    | q + 2, _ => rfl
/-- which cells a method may change: the world's, and new ones -/
def AE (E : En) (sz : Nat) : Nat → Prop := fun q => (∃ c, c ∈ eL E ∧ q = eA E c) ∨ sz ≤ q
abbrev tysE (E : En) : List (ClassId × FieldType) := [(eY E 0, .int), (eY E 1, .byte), (eY E 2, .boolean), (eY E 3, .object "VowRope$Walk")]

def snm : Nat → String := fun i => match i with | 0 => "ABOVE" | 1 => "SIZE_BODIES" | _ => "MARK_BODIES"
def stv : Nat → List Int32 := fun i => match i with | 0 => [0, 0, 1, 2, 0, 4] | 1 => [10, 11, 0, 12, 13, 14] | _ => [20, 21, 22, 24, 23, 0]
def klen : List Nat := [3, 7, 4, 3, 4, 4, 3, 4]
def kbyt : List (List Int32) := [[108, 97, 119], [115, 112, 101, 97, 107, 101, 114], [121, 97, 114, 110], [118, 111, 119], [111, 97, 116, 104], [100, 101, 98, 116], [108, 105, 101], [104, 111, 112, 101]]
def kix : Nat → Nat := fun i => match i with | 0 => 51 | 1 => 34 | 2 => 43 | 3 => 94 | 4 => 98 | 5 => 100 | 6 => 102 | _ => 104
def ktx : Nat → String := fun i => match i with | 0 => "law" | 1 => "speaker" | 2 => "yarn" | 3 => "vow" | 4 => "oath" | 5 => "debt" | 6 => "lie" | _ => "hope"
/-- what the start gives of static rows and texts -/
def SF (E : En) (U : State) : Prop :=
  (∀ i : Nat, i < 3 → va_Z RX4 (snm i) "[I" (.ref (eT E i)) (AE E U.heap.size) U U.heap ∧ va_T .int (eT E i) 6 (fun j => .int ((stv i).getD j 0)) (AE E U.heap.size) U U.heap) ∧
  va_Z RJ0 "COMPACT_STRINGS" "Z" (.int 1) (AE E U.heap.size) U U.heap ∧ va_Zq RJ3 "SIOOBE_FORMATTER" "Ljava/util/function/BiFunction;" (AE E U.heap.size) U U.heap ∧
  vk_S 8 klen kbyt (eK E) (eV E) (AE E U.heap.size) U U.heap ∧ ∀ i : Nat, i < 8 → vk_R RX6 (kix i) (ktx i) (eK E i) U
def BL (E : En) : Prop := ∀ c, c < 52 → c ∈ eL E
theorem SF.move {E : En} {s U : State} {H : Heap} {locs : List Loc} (h : SF E s) (hS : va_S (AE E s.heap.size) s.heap H locs) (hU : U.heap = H) (hW : s.WarmedH U.vm) : SF E U := by
  have hvm := hW.alike
  have hn : ∀ q, AE E U.heap.size q → AE E s.heap.size q := by
    intro q hq
    rcases hq with hq | hq
    · exact Or.inl hq
    · exact Or.inr (Nat.le_trans hS.1 (by rw [← hU]; exact hq))
  have hk : ∀ a : Nat, a < s.heap.size → ¬ AE E s.heap.size a → U.heap[a]? = s.heap[a]? := by rw [hU]; exact hS.2.1
  obtain ⟨h1, h2, h3, h4, h5⟩ := h
  exact ⟨fun i hi => ⟨((va_Z.moved hvm (h1 i hi).1).kept hk).narrow hn, ((va_T.moved hvm (h1 i hi).2).kept hk).narrow hn⟩, ((va_Z.moved hvm h2).kept hk).narrow hn, ((va_Zq.moved hvm h3).kept hk).narrow hn, ((vk_S.moved hvm h4).kept hk).narrow hn, fun i hi => vk_R.warm hW (h5 i hi)⟩
theorem SF.same {E : En} {u U : State} (h : SF E u) (hH : U.heap = u.heap) (hv : U.vm = u.vm) : SF E U := by
  obtain ⟨h1, h2, h3, h4, h5⟩ := h
  have hvm : u.vm.Alike U.vm := by rw [hv]; exact Vm.Alike.refl _
  refine ⟨fun i hi => ?_, ?_, ?_, ?_, fun i hi => vk_R.same hv (h5 i hi)⟩
  · rw [hH]; exact ⟨va_Z.moved hvm (h1 i hi).1, va_T.moved hvm (h1 i hi).2⟩
  · rw [hH]; exact va_Z.moved hvm h2
  · rw [hH]; exact va_Zq.moved hvm h3
  · rw [hH]; exact vk_S.moved hvm h4
/-- the method's own context -/
def CX (p : Program) (s : State) (m : MethodId) (args : Array Value) (meth : Method) (c : Code) (cc : ByteArray) (own : String) (nL : Nat) (ret : Option FieldType) (E : En) : Prop :=
  p.tables.exec = Jvm.exec ∧ c.code = cc ∧ c.maxLocals = nL ∧ s.vm.findClass own = some m.cls ∧ (∀ w ∈ gw, w.before args s = true) ∧ va_K (eD E) vwCl (tysE E) s ∧ meth.sig.returnType = ret ∧ meth.locks = false ∧ SF E s ∧ BL E
def lvh (ls : Array Slot) (nL : Nat) (L : List (Option Value)) : Prop := ls.size = nL ∧ lv_wf ls ∧ ∀ (k : Nat) (v : Value), L[k]? = some (some v) → ls[k]? = some (.val v)
/-- the machine at a place of the method, with these locals, this stack, this world -/
def WA (p : Program) (l : Launch) (e : Env) (R : Room) (s : State) (m : MethodId) (args : Array Value) (below : List Frame) (meth : Method) (c : Code) (nL : Nat) (E : En) (nc ns : Nat) (Q : State → Prop) (pc : Nat) (L : List (Option Value)) (st : List Value) (σ : Sg) : Prop :=
  ∀ (H : Heap) (locs : List Loc) (ls : Array Slot), va_P (eD E) vwCl (wl E σ) H → va_D (AE E s.heap.size) (wl E σ) → va_S (AE E s.heap.size) s.heap H locs → lvh ls nL L → W p l e R s m args below meth c H locs nc ns Q (F0 m pc ls st)
def al (L : List (Option Value)) : List (Nat × Value) := (List.range L.length).filterMap (fun k => (L[k]?.getD none).map (fun v => (k, v)))
theorem al_mem {L : List (Option Value)} {q : Nat × Value} : q ∈ al L ↔ L[q.1]? = some (some q.2) := by
  unfold al
  rw [List.mem_filterMap]
  constructor
  · rintro ⟨k, hk, h⟩
    cases hL : L[k]? with
    | none => rw [hL] at h; cases h
    | some o =>
      rw [hL] at h
      cases o with
      | none => cases h
      | some v => cases h; exact hL
  · intro h
    refine ⟨q.1, List.mem_range.mpr (List.getElem?_eq_some_iff.mp h).1, ?_⟩
    rw [h]
    rfl
theorem lvh_has {ls : Array Slot} {nL : Nat} {L : List (Option Value)} (h : lvh ls nL L) : lv_has ls nL (al L) := ⟨h.1, h.2.1, fun q hq => h.2.2 q.1 q.2 (al_mem.mp hq)⟩
def okS (L : List (Option Value)) (i : Nat) : Bool := match i with
  | 0 => true
  | j + 1 => match L[j]? with
    | some (some (.long _)) => false
    | some (some (.double _)) => false
    | _ => true
theorem okS_cat {L : List (Option Value)} {j : Nat} {v : Value} (h : okS L (j + 1) = true) (hv : L[j]? = some (some v)) : ¬ v.category = 2 := by
  unfold okS at h
  simp only [hv] at h
  cases v <;> first | (intro z; cases z; done) | cases h
theorem lvh_st {ls : Array Slot} {nL i : Nat} {L L' : List (Option Value)} {v : Value} (hok : okS L i = true) (hL : L.set i (some v) = L') (h : lv_has ls nL ((i, v) :: (al L).filter (fun q => !(q.1 == i) && !(q.1 + 1 == i && q.2.category == 2)))) : lvh ls nL L' := by
  refine ⟨h.1, h.2.1, fun k w hk => ?_⟩
  subst hL
  by_cases hki : k = i
  · subst hki
    by_cases hl : k < L.length
    · rw [List.getElem?_set_self hl] at hk
      cases hk
      exact h.2.2 (k, v) List.mem_cons_self
    · rw [List.getElem?_eq_none (by rw [List.length_set]; omega)] at hk
      cases hk
  · rw [List.getElem?_set_ne (Ne.symm hki)] at hk
    refine h.2.2 (k, w) (List.mem_cons_of_mem _ (List.mem_filter.mpr ⟨al_mem.mpr hk, ?_⟩))
    simp only [Bool.and_eq_true, Bool.not_eq_true', beq_eq_false_iff_ne, ne_eq, Bool.and_eq_false_iff]
    refine ⟨hki, ?_⟩
    by_cases hk1 : k + 1 = i
    · subst hk1
      exact Or.inr (okS_cat hok hk)
    · exact Or.inl hk1
end
section
section WArows
variable {p : Program} {l : Launch} {e : Env} {R : Room} {s : State} {m : MethodId} {args : Array Value} {below : List Frame} {meth : Method} {c : Code} {cc : ByteArray} {own : String} {nL : Nat} {ret : Option FieldType} {E : En} {Q : State → Prop} {nc ns pc : Nat} {L : List (Option Value)} {st : List Value} {σ : Sg}
theorem wa_iadd (cx : CX p s m args meth c cc own nL ret E) {x y : Int32} (hd : decode cc pc = .ok (.iadd, 1)) (k : WA p l e R s m args below meth c nL E nc ns Q (pc + 1) L (.int (x + y) :: st) σ) : WA p l e R s m args below meth c nL E nc ns Q (pc) L (.int y :: .int x :: st) σ := fun H locs ls hP hD hS hl => lv_iadd cx.1 cx.2.1 hd (k H locs ls hP hD hS hl)
theorem wa_isub (cx : CX p s m args meth c cc own nL ret E) {x y : Int32} (hd : decode cc pc = .ok (.isub, 1)) (k : WA p l e R s m args below meth c nL E nc ns Q (pc + 1) L (.int (x - y) :: st) σ) : WA p l e R s m args below meth c nL E nc ns Q (pc) L (.int y :: .int x :: st) σ := fun H locs ls hP hD hS hl => lv_isub cx.1 cx.2.1 hd (k H locs ls hP hD hS hl)
theorem wa_imul (cx : CX p s m args meth c cc own nL ret E) {x y : Int32} (hd : decode cc pc = .ok (.imul, 1)) (k : WA p l e R s m args below meth c nL E nc ns Q (pc + 1) L (.int (x * y) :: st) σ) : WA p l e R s m args below meth c nL E nc ns Q (pc) L (.int y :: .int x :: st) σ := fun H locs ls hP hD hS hl => lv_imul cx.1 cx.2.1 hd (k H locs ls hP hD hS hl)
theorem wa_iand (cx : CX p s m args meth c cc own nL ret E) {x y : Int32} (hd : decode cc pc = .ok (.iand, 1)) (k : WA p l e R s m args below meth c nL E nc ns Q (pc + 1) L (.int (x &&& y) :: st) σ) : WA p l e R s m args below meth c nL E nc ns Q (pc) L (.int y :: .int x :: st) σ := fun H locs ls hP hD hS hl => lv_iand cx.1 cx.2.1 hd (k H locs ls hP hD hS hl)
theorem wa_ior (cx : CX p s m args meth c cc own nL ret E) {x y : Int32} (hd : decode cc pc = .ok (.ior, 1)) (k : WA p l e R s m args below meth c nL E nc ns Q (pc + 1) L (.int (x ||| y) :: st) σ) : WA p l e R s m args below meth c nL E nc ns Q (pc) L (.int y :: .int x :: st) σ := fun H locs ls hP hD hS hl => lv_ior cx.1 cx.2.1 hd (k H locs ls hP hD hS hl)
theorem wa_ixor (cx : CX p s m args meth c cc own nL ret E) {x y : Int32} (hd : decode cc pc = .ok (.ixor, 1)) (k : WA p l e R s m args below meth c nL E nc ns Q (pc + 1) L (.int (x ^^^ y) :: st) σ) : WA p l e R s m args below meth c nL E nc ns Q (pc) L (.int y :: .int x :: st) σ := fun H locs ls hP hD hS hl => lv_ixor cx.1 cx.2.1 hd (k H locs ls hP hD hS hl)
theorem wa_idiv (cx : CX p s m args meth c cc own nL ret E) {x y : Int32} (hd : decode cc pc = .ok (.idiv, 1)) (hne : ¬ y = 0) (k : WA p l e R s m args below meth c nL E nc ns Q (pc + 1) L (.int (x / y) :: st) σ) : WA p l e R s m args below meth c nL E nc ns Q (pc) L (.int y :: .int x :: st) σ := fun H locs ls hP hD hS hl => lv_idiv cx.1 cx.2.1 hd hne (k H locs ls hP hD hS hl)
theorem wa_irem (cx : CX p s m args meth c cc own nL ret E) {x y : Int32} (hd : decode cc pc = .ok (.irem, 1)) (hne : ¬ y = 0) (k : WA p l e R s m args below meth c nL E nc ns Q (pc + 1) L (.int (irm x y) :: st) σ) : WA p l e R s m args below meth c nL E nc ns Q (pc) L (.int y :: .int x :: st) σ := fun H locs ls hP hD hS hl => lv_irem cx.1 cx.2.1 hd hne (k H locs ls hP hD hS hl)
theorem wa_ineg (cx : CX p s m args meth c cc own nL ret E) {x : Int32} (hd : decode cc pc = .ok (.ineg, 1)) (k : WA p l e R s m args below meth c nL E nc ns Q (pc + 1) L (.int (-x) :: st) σ) : WA p l e R s m args below meth c nL E nc ns Q (pc) L (.int x :: st) σ := fun H locs ls hP hD hS hl => lv_ineg cx.1 cx.2.1 hd (k H locs ls hP hD hS hl)
theorem wa_ishl (cx : CX p s m args meth c cc own nL ret E) {x y : Int32} (hd : decode cc pc = .ok (.ishl, 1)) (k : WA p l e R s m args below meth c nL E nc ns Q (pc + 1) L (.int (jshl x y) :: st) σ) : WA p l e R s m args below meth c nL E nc ns Q (pc) L (.int y :: .int x :: st) σ := fun H locs ls hP hD hS hl => lv_ishl cx.1 cx.2.1 hd (k H locs ls hP hD hS hl)
theorem wa_ishr (cx : CX p s m args meth c cc own nL ret E) {x y : Int32} (hd : decode cc pc = .ok (.ishr, 1)) (k : WA p l e R s m args below meth c nL E nc ns Q (pc + 1) L (.int (jshr x y) :: st) σ) : WA p l e R s m args below meth c nL E nc ns Q (pc) L (.int y :: .int x :: st) σ := fun H locs ls hP hD hS hl => lv_ishr cx.1 cx.2.1 hd (k H locs ls hP hD hS hl)
theorem wa_iushr (cx : CX p s m args meth c cc own nL ret E) {x y : Int32} (hd : decode cc pc = .ok (.iushr, 1)) (k : WA p l e R s m args below meth c nL E nc ns Q (pc + 1) L (.int (jushr x y) :: st) σ) : WA p l e R s m args below meth c nL E nc ns Q (pc) L (.int y :: .int x :: st) σ := fun H locs ls hP hD hS hl => lv_iushr cx.1 cx.2.1 hd rfl (k H locs ls hP hD hS hl)
theorem wa_ladd (cx : CX p s m args meth c cc own nL ret E) {x y : Int64} (hd : decode cc pc = .ok (.ladd, 1)) (k : WA p l e R s m args below meth c nL E nc ns Q (pc + 1) L (.long (x + y) :: st) σ) : WA p l e R s m args below meth c nL E nc ns Q (pc) L (.long y :: .long x :: st) σ := fun H locs ls hP hD hS hl => lv_ladd cx.1 cx.2.1 hd (k H locs ls hP hD hS hl)
theorem wa_lmul (cx : CX p s m args meth c cc own nL ret E) {x y : Int64} (hd : decode cc pc = .ok (.lmul, 1)) (k : WA p l e R s m args below meth c nL E nc ns Q (pc + 1) L (.long (x * y) :: st) σ) : WA p l e R s m args below meth c nL E nc ns Q (pc) L (.long y :: .long x :: st) σ := fun H locs ls hP hD hS hl => lv_lmul cx.1 cx.2.1 hd (k H locs ls hP hD hS hl)
theorem wa_land (cx : CX p s m args meth c cc own nL ret E) {x y : Int64} (hd : decode cc pc = .ok (.land, 1)) (k : WA p l e R s m args below meth c nL E nc ns Q (pc + 1) L (.long (x &&& y) :: st) σ) : WA p l e R s m args below meth c nL E nc ns Q (pc) L (.long y :: .long x :: st) σ := fun H locs ls hP hD hS hl => lv_land cx.1 cx.2.1 hd (k H locs ls hP hD hS hl)
theorem wa_lor (cx : CX p s m args meth c cc own nL ret E) {x y : Int64} (hd : decode cc pc = .ok (.lor, 1)) (k : WA p l e R s m args below meth c nL E nc ns Q (pc + 1) L (.long (x ||| y) :: st) σ) : WA p l e R s m args below meth c nL E nc ns Q (pc) L (.long y :: .long x :: st) σ := fun H locs ls hP hD hS hl => lv_lor cx.1 cx.2.1 hd (k H locs ls hP hD hS hl)
theorem wa_lsub (cx : CX p s m args meth c cc own nL ret E) {x y : Int64} (hd : decode cc pc = .ok (.lsub, 1)) (k : WA p l e R s m args below meth c nL E nc ns Q (pc + 1) L (.long (x - y) :: st) σ) : WA p l e R s m args below meth c nL E nc ns Q (pc) L (.long y :: .long x :: st) σ := fun H locs ls hP hD hS hl => lv_lsub cx.1 cx.2.1 hd (k H locs ls hP hD hS hl)
theorem wa_lrem (cx : CX p s m args meth c cc own nL ret E) {x y : Int64} (hd : decode cc pc = .ok (.lrem, 1)) (hne : ¬ y = 0) (k : WA p l e R s m args below meth c nL E nc ns Q (pc + 1) L (.long (lrm x y) :: st) σ) : WA p l e R s m args below meth c nL E nc ns Q (pc) L (.long y :: .long x :: st) σ := fun H locs ls hP hD hS hl => lv_lrem cx.1 cx.2.1 hd hne (k H locs ls hP hD hS hl)
theorem wa_lshl (cx : CX p s m args meth c cc own nL ret E) {x : Int64} {y : Int32} (hd : decode cc pc = .ok (.lshl, 1)) (k : WA p l e R s m args below meth c nL E nc ns Q (pc + 1) L (.long (jlshl x y) :: st) σ) : WA p l e R s m args below meth c nL E nc ns Q (pc) L (.int y :: .long x :: st) σ := fun H locs ls hP hD hS hl => lv_lshl cx.1 cx.2.1 hd rfl (k H locs ls hP hD hS hl)
theorem wa_lshr (cx : CX p s m args meth c cc own nL ret E) {x : Int64} {y : Int32} (hd : decode cc pc = .ok (.lshr, 1)) (k : WA p l e R s m args below meth c nL E nc ns Q (pc + 1) L (.long (jlshr x y) :: st) σ) : WA p l e R s m args below meth c nL E nc ns Q (pc) L (.int y :: .long x :: st) σ := fun H locs ls hP hD hS hl => lv_lshr cx.1 cx.2.1 hd rfl (k H locs ls hP hD hS hl)
theorem wa_lcmp (cx : CX p s m args meth c cc own nL ret E) {x y : Int64} (hd : decode cc pc = .ok (.lcmp, 1)) (k : WA p l e R s m args below meth c nL E nc ns Q (pc + 1) L (.int (lg_cmp x y) :: st) σ) : WA p l e R s m args below meth c nL E nc ns Q (pc) L (.long y :: .long x :: st) σ := fun H locs ls hP hD hS hl => W.lcmp cx.1 cx.2.1 hd (k H locs ls hP hD hS hl)
theorem wa_i2l (cx : CX p s m args meth c cc own nL ret E) {x : Int32} (hd : decode cc pc = .ok (.i2l, 1)) (k : WA p l e R s m args below meth c nL E nc ns Q (pc + 1) L (.long x.toInt64 :: st) σ) : WA p l e R s m args below meth c nL E nc ns Q (pc) L (.int x :: st) σ := fun H locs ls hP hD hS hl => lv_i2l cx.1 cx.2.1 hd rfl (k H locs ls hP hD hS hl)
theorem wa_l2i (cx : CX p s m args meth c cc own nL ret E) {x : Int64} (hd : decode cc pc = .ok (.l2i, 1)) (k : WA p l e R s m args below meth c nL E nc ns Q (pc + 1) L (.int x.toInt32 :: st) σ) : WA p l e R s m args below meth c nL E nc ns Q (pc) L (.long x :: st) σ := fun H locs ls hP hD hS hl => lv_l2i cx.1 cx.2.1 hd rfl (k H locs ls hP hD hS hl)
theorem wa_i2b (cx : CX p s m args meth c cc own nL ret E) {x : Int32} (hd : decode cc pc = .ok (.i2b, 1)) (k : WA p l e R s m args below meth c nL E nc ns Q (pc + 1) L (.int (i2b x) :: st) σ) : WA p l e R s m args below meth c nL E nc ns Q (pc) L (.int x :: st) σ := fun H locs ls hP hD hS hl => lv_i2b cx.1 cx.2.1 hd rfl (k H locs ls hP hD hS hl)
theorem wa_i2s (cx : CX p s m args meth c cc own nL ret E) {x : Int32} (hd : decode cc pc = .ok (.i2s, 1)) (k : WA p l e R s m args below meth c nL E nc ns Q (pc + 1) L (.int (i2s x) :: st) σ) : WA p l e R s m args below meth c nL E nc ns Q (pc) L (.int x :: st) σ := fun H locs ls hP hD hS hl => lv_i2s cx.1 cx.2.1 hd rfl (k H locs ls hP hD hS hl)
theorem wa_i2c (cx : CX p s m args meth c cc own nL ret E) {x : Int32} (hd : decode cc pc = .ok (.i2c, 1)) (k : WA p l e R s m args below meth c nL E nc ns Q (pc + 1) L (.int (i2c x) :: st) σ) : WA p l e R s m args below meth c nL E nc ns Q (pc) L (.int x :: st) σ := fun H locs ls hP hD hS hl => lv_i2c cx.1 cx.2.1 hd rfl (k H locs ls hP hD hS hl)
theorem wa_iconst (cx : CX p s m args meth c cc own nL ret E) {n : Int} {v : Int32} (hd : decode cc pc = .ok (.iconst n, 1)) (hv : Int32.ofInt n = v) (k : WA p l e R s m args below meth c nL E nc ns Q (pc + 1) L (.int v :: st) σ) : WA p l e R s m args below meth c nL E nc ns Q (pc) L (st) σ := fun H locs ls hP hD hS hl => lv_iconst cx.1 cx.2.1 hd hv (k H locs ls hP hD hS hl)
theorem wa_bipush (cx : CX p s m args meth c cc own nL ret E) {n : Int} {v : Int32} (hd : decode cc pc = .ok (.bipush n, 2)) (hv : (Int8.ofInt n).toInt32 = v) (k : WA p l e R s m args below meth c nL E nc ns Q (pc + 2) L (.int v :: st) σ) : WA p l e R s m args below meth c nL E nc ns Q (pc) L (st) σ := fun H locs ls hP hD hS hl => lv_bipush cx.1 cx.2.1 hd hv (k H locs ls hP hD hS hl)
theorem wa_sipush (cx : CX p s m args meth c cc own nL ret E) {n : Int} {v : Int32} (hd : decode cc pc = .ok (.sipush n, 3)) (hv : (Int16.ofInt n).toInt32 = v) (k : WA p l e R s m args below meth c nL E nc ns Q (pc + 3) L (.int v :: st) σ) : WA p l e R s m args below meth c nL E nc ns Q (pc) L (st) σ := fun H locs ls hP hD hS hl => lv_sipush cx.1 cx.2.1 hd hv (k H locs ls hP hD hS hl)
theorem wa_lconst (cx : CX p s m args meth c cc own nL ret E) {n : Fin 2} {v : Int64} (hd : decode cc pc = .ok (.lconst n, 1)) (hv : Int64.ofNat (n : Nat) = v) (k : WA p l e R s m args below meth c nL E nc ns Q (pc + 1) L (.long v :: st) σ) : WA p l e R s m args below meth c nL E nc ns Q (pc) L (st) σ := fun H locs ls hP hD hS hl => lv_lconst cx.1 cx.2.1 hd hv (k H locs ls hP hD hS hl)
theorem wa_dup (cx : CX p s m args meth c cc own nL ret E) {va : Value} (hd : decode cc pc = .ok (.dup, 1)) (hva : va.category = 1) (k : WA p l e R s m args below meth c nL E nc ns Q (pc + 1) L (va :: va :: st) σ) : WA p l e R s m args below meth c nL E nc ns Q (pc) L (va :: st) σ := fun H locs ls hP hD hS hl => lv_dup cx.1 cx.2.1 hd hva (k H locs ls hP hD hS hl)
theorem wa_pop (cx : CX p s m args meth c cc own nL ret E) {va : Value} (hd : decode cc pc = .ok (.pop, 1)) (hva : va.category = 1) (k : WA p l e R s m args below meth c nL E nc ns Q (pc + 1) L (st) σ) : WA p l e R s m args below meth c nL E nc ns Q (pc) L (va :: st) σ := fun H locs ls hP hD hS hl => lv_pop cx.1 cx.2.1 hd hva (k H locs ls hP hD hS hl)
theorem wa_dup2 (cx : CX p s m args meth c cc own nL ret E) {va vb : Value} (hd : decode cc pc = .ok (.dup2, 1)) (hva : va.category = 1) (hvb : vb.category = 1) (k : WA p l e R s m args below meth c nL E nc ns Q (pc + 1) L (va :: vb :: va :: vb :: st) σ) : WA p l e R s m args below meth c nL E nc ns Q (pc) L (va :: vb :: st) σ := fun H locs ls hP hD hS hl => lv_dup2_11 cx.1 cx.2.1 hd hva hvb (k H locs ls hP hD hS hl)
theorem wa_ldc (cx : CX p s m args meth c cc own nL ret E) {idx : Nat} {v : Int32} (hd : decode cc pc = .ok (.ldc idx, 2)) (hw : Cond.constant own idx v ∈ gw) (k : WA p l e R s m args below meth c nL E nc ns Q (pc + 2) L (.int v :: st) σ) : WA p l e R s m args below meth c nL E nc ns Q (pc) L (st) σ := fun H locs ls hP hD hS hl => lv_ldc cx.1 cx.2.1 cx.2.2.2.1 (cx.2.2.2.2.1 _ hw) hd (k H locs ls hP hD hS hl)
theorem wa_ldcw (cx : CX p s m args meth c cc own nL ret E) {idx : Nat} {v : Int32} (hd : decode cc pc = .ok (.ldc_w idx, 3)) (hw : Cond.constant own idx v ∈ gw) (k : WA p l e R s m args below meth c nL E nc ns Q (pc + 3) L (.int v :: st) σ) : WA p l e R s m args below meth c nL E nc ns Q (pc) L (st) σ := fun H locs ls hP hD hS hl => lv_ldcw cx.1 cx.2.1 cx.2.2.2.1 (cx.2.2.2.2.1 _ hw) hd (k H locs ls hP hD hS hl)
theorem wa_ldc2 (cx : CX p s m args meth c cc own nL ret E) {idx : Nat} {v : Int64} (hd : decode cc pc = .ok (.ldc2_w idx, 3)) (hw : Cond.constantLong own idx v ∈ gw) (k : WA p l e R s m args below meth c nL E nc ns Q (pc + 3) L (.long v :: st) σ) : WA p l e R s m args below meth c nL E nc ns Q (pc) L (st) σ := fun H locs ls hP hD hS hl => lv_ldc2 cx.1 cx.2.1 cx.2.2.2.1 (cx.2.2.2.2.1 _ hw) hd (k H locs ls hP hD hS hl)
theorem wa_iload_n (cx : CX p s m args meth c cc own nL ret E) {q : Fin 4} {x : Int32} (i : Nat) (hd : decode cc pc = .ok (.iload_n q, 1)) (hi : (q : Nat) = i) (hL : L[i]? = some (some (.int x))) (k : WA p l e R s m args below meth c nL E nc ns Q (pc + 1) L (.int x :: st) σ) : WA p l e R s m args below meth c nL E nc ns Q (pc) L (st) σ := fun H locs ls hP hD hS hl => lv_iload_n cx.1 cx.2.1 hd hi (hl.2.2 i _ hL) (k H locs ls hP hD hS hl)
theorem wa_iload (cx : CX p s m args meth c cc own nL ret E) {x : Int32} (i : Nat) (hd : decode cc pc = .ok (.iload i, 2)) (hL : L[i]? = some (some (.int x))) (k : WA p l e R s m args below meth c nL E nc ns Q (pc + 2) L (.int x :: st) σ) : WA p l e R s m args below meth c nL E nc ns Q (pc) L (st) σ := fun H locs ls hP hD hS hl => lv_iload cx.1 cx.2.1 hd (hl.2.2 i _ hL) (k H locs ls hP hD hS hl)
theorem wa_lload_n (cx : CX p s m args meth c cc own nL ret E) {q : Fin 4} {x : Int64} (i : Nat) (hd : decode cc pc = .ok (.lload_n q, 1)) (hi : (q : Nat) = i) (hL : L[i]? = some (some (.long x))) (k : WA p l e R s m args below meth c nL E nc ns Q (pc + 1) L (.long x :: st) σ) : WA p l e R s m args below meth c nL E nc ns Q (pc) L (st) σ := fun H locs ls hP hD hS hl => lv_lload_n cx.1 cx.2.1 hd hi (hl.2.2 i _ hL) (k H locs ls hP hD hS hl)
theorem wa_lload (cx : CX p s m args meth c cc own nL ret E) {x : Int64} (i : Nat) (hd : decode cc pc = .ok (.lload i, 2)) (hL : L[i]? = some (some (.long x))) (k : WA p l e R s m args below meth c nL E nc ns Q (pc + 2) L (.long x :: st) σ) : WA p l e R s m args below meth c nL E nc ns Q (pc) L (st) σ := fun H locs ls hP hD hS hl => lv_lload cx.1 cx.2.1 hd (hl.2.2 i _ hL) (k H locs ls hP hD hS hl)
theorem wa_aload_n (cx : CX p s m args meth c cc own nL ret E) {q : Fin 4} {x : Nat} (i : Nat) (hd : decode cc pc = .ok (.aload_n q, 1)) (hi : (q : Nat) = i) (hL : L[i]? = some (some (.ref x))) (k : WA p l e R s m args below meth c nL E nc ns Q (pc + 1) L (.ref x :: st) σ) : WA p l e R s m args below meth c nL E nc ns Q (pc) L (st) σ := fun H locs ls hP hD hS hl => lv_aload_n cx.1 cx.2.1 hd hi (hl.2.2 i _ hL) (k H locs ls hP hD hS hl)
theorem wa_aload (cx : CX p s m args meth c cc own nL ret E) {x : Nat} (i : Nat) (hd : decode cc pc = .ok (.aload i, 2)) (hL : L[i]? = some (some (.ref x))) (k : WA p l e R s m args below meth c nL E nc ns Q (pc + 2) L (.ref x :: st) σ) : WA p l e R s m args below meth c nL E nc ns Q (pc) L (st) σ := fun H locs ls hP hD hS hl => lv_aload cx.1 cx.2.1 hd (hl.2.2 i _ hL) (k H locs ls hP hD hS hl)
theorem wa_istore_n (cx : CX p s m args meth c cc own nL ret E) {q : Fin 4} {x : Int32} (i : Nat) (L1 : List (Option Value)) (hd : decode cc pc = .ok (.istore_n q, 1)) (hi : (q : Nat) = i) (hn : i < nL) (hok : okS L i = true) (hL : L.set i (some (.int x)) = L1) (k : WA p l e R s m args below meth c nL E nc ns Q (pc + 1) L1 (st) σ) : WA p l e R s m args below meth c nL E nc ns Q (pc) L (.int x :: st) σ := fun H locs ls hP hD hS hl => lv_istore_n cx.1 cx.2.1 hd hi (lvh_has hl) hn rfl (fun ls1 h1 => k H locs ls1 hP hD hS (lvh_st hok hL h1))
theorem wa_istore (cx : CX p s m args meth c cc own nL ret E) {x : Int32} (i : Nat) (L1 : List (Option Value)) (hd : decode cc pc = .ok (.istore i, 2)) (hn : i < nL) (hok : okS L i = true) (hL : L.set i (some (.int x)) = L1) (k : WA p l e R s m args below meth c nL E nc ns Q (pc + 2) L1 (st) σ) : WA p l e R s m args below meth c nL E nc ns Q (pc) L (.int x :: st) σ := fun H locs ls hP hD hS hl => lv_istore cx.1 cx.2.1 hd (lvh_has hl) hn rfl (fun ls1 h1 => k H locs ls1 hP hD hS (lvh_st hok hL h1))
theorem wa_astore_n (cx : CX p s m args meth c cc own nL ret E) {q : Fin 4} {x : Nat} (i : Nat) (L1 : List (Option Value)) (hd : decode cc pc = .ok (.astore_n q, 1)) (hi : (q : Nat) = i) (hn : i < nL) (hok : okS L i = true) (hL : L.set i (some (.ref x)) = L1) (k : WA p l e R s m args below meth c nL E nc ns Q (pc + 1) L1 (st) σ) : WA p l e R s m args below meth c nL E nc ns Q (pc) L (.ref x :: st) σ := fun H locs ls hP hD hS hl => lv_astore_n cx.1 cx.2.1 hd hi (lvh_has hl) hn rfl (fun ls1 h1 => k H locs ls1 hP hD hS (lvh_st hok hL h1))
theorem wa_astore (cx : CX p s m args meth c cc own nL ret E) {x : Nat} (i : Nat) (L1 : List (Option Value)) (hd : decode cc pc = .ok (.astore i, 2)) (hn : i < nL) (hok : okS L i = true) (hL : L.set i (some (.ref x)) = L1) (k : WA p l e R s m args below meth c nL E nc ns Q (pc + 2) L1 (st) σ) : WA p l e R s m args below meth c nL E nc ns Q (pc) L (.ref x :: st) σ := fun H locs ls hP hD hS hl => lv_astore cx.1 cx.2.1 hd (lvh_has hl) hn rfl (fun ls1 h1 => k H locs ls1 hP hD hS (lvh_st hok hL h1))
theorem lvh_st2 {ls : Array Slot} {nL i : Nat} {L L1 : List (Option Value)} {v : Value} (hok : okS L i = true) (hL : (L.set i (some v)).set (i + 1) none = L1) (h : lv_has ls nL ((i, v) :: (al L).filter (fun q => !(q.1 == i) && (!(q.1 == i + 1) && !(q.1 + 1 == i && q.2.category == 2))))) : lvh ls nL L1 := by
  refine ⟨h.1, h.2.1, fun k w hk => ?_⟩
  subst hL
  by_cases hk1 : k = i + 1
  · subst hk1
    by_cases hl : i + 1 < L.length
    · rw [List.getElem?_set_self (by rw [List.length_set]; exact hl)] at hk
      cases hk
    · rw [List.getElem?_eq_none (by rw [List.length_set, List.length_set]; omega)] at hk
      cases hk
  · rw [List.getElem?_set_ne (Ne.symm hk1)] at hk
    by_cases hki : k = i
    · subst hki
      by_cases hl : k < L.length
      · rw [List.getElem?_set_self hl] at hk
        cases hk
        exact h.2.2 (k, v) List.mem_cons_self
      · rw [List.getElem?_eq_none (by rw [List.length_set]; omega)] at hk
        cases hk
    · rw [List.getElem?_set_ne (Ne.symm hki)] at hk
      refine h.2.2 (k, w) (List.mem_cons_of_mem _ (List.mem_filter.mpr ⟨al_mem.mpr hk, ?_⟩))
      simp only [Bool.and_eq_true, Bool.not_eq_true', beq_eq_false_iff_ne, ne_eq, Bool.and_eq_false_iff]
      refine ⟨hki, hk1, ?_⟩
      by_cases hk2 : k + 1 = i
      · subst hk2
        exact Or.inr (okS_cat hok hk)
      · exact Or.inl hk2
theorem wa_lstore_n (cx : CX p s m args meth c cc own nL ret E) {q : Fin 4} {x : Int64} (i : Nat) (L1 : List (Option Value)) (hd : decode cc pc = .ok (.lstore_n q, 1)) (hi : (q : Nat) = i) (hn : i + 1 < nL) (hok : okS L i = true) (hL : (L.set i (some (.long x))).set (i + 1) none = L1) (k : WA p l e R s m args below meth c nL E nc ns Q (pc + 1) L1 (st) σ) : WA p l e R s m args below meth c nL E nc ns Q (pc) L (.long x :: st) σ := fun H locs ls hP hD hS hl => lv_lstore_n cx.1 cx.2.1 hd hi (lvh_has hl) hn rfl (fun ls1 h1 => k H locs ls1 hP hD hS (lvh_st2 hok hL h1))
theorem wa_iinc (cx : CX p s m args meth c cc own nL ret E) {n : Int} {x v : Int32} (i : Nat) (L1 : List (Option Value)) (hd : decode cc pc = .ok (.iinc i n, 3)) (hv : Int32.ofInt n = v) (hx : L[i]? = some (some (.int x))) (hn : i < nL) (hok : okS L i = true) (hL : L.set i (some (.int (x + v))) = L1) (k : WA p l e R s m args below meth c nL E nc ns Q (pc + 3) L1 (st) σ) : WA p l e R s m args below meth c nL E nc ns Q (pc) L (st) σ := by
  intro H locs ls hP hD hS hl
  obtain ⟨j, hj⟩ := List.getElem?_of_mem (show (i, Value.int x) ∈ al L from al_mem.mpr hx)
  exact lv_iinc (k := j) cx.1 cx.2.1 hd (lvh_has hl) hj (by rw [hv]) hn rfl (fun ls1 h1 => k H locs ls1 hP hD hS (lvh_st hok hL h1))
theorem wa_if_eq (cx : CX p s m args meth c cc own nL ret E) {x : Int32} {off : Int} (tgt : Nat) (hd : decode cc pc = .ok (.ifCond .eq off, 3)) (ht : (pc : Int) + off = (tgt : Int)) (kt : x = 0 → WA p l e R s m args below meth c nL E nc ns Q (tgt) L (st) σ) (kf : ¬ x = 0 → WA p l e R s m args below meth c nL E nc ns Q (pc + 3) L (st) σ) : WA p l e R s m args below meth c nL E nc ns Q (pc) L (.int x :: st) σ := fun H locs ls hP hD hS hl => lv_if_eq cx.1 cx.2.1 hd ht (fun h => kt h H locs ls hP hD hS hl) (fun h => kf h H locs ls hP hD hS hl)
theorem wa_if_ne (cx : CX p s m args meth c cc own nL ret E) {x : Int32} {off : Int} (tgt : Nat) (hd : decode cc pc = .ok (.ifCond .ne off, 3)) (ht : (pc : Int) + off = (tgt : Int)) (kt : ¬ x = 0 → WA p l e R s m args below meth c nL E nc ns Q (tgt) L (st) σ) (kf : x = 0 → WA p l e R s m args below meth c nL E nc ns Q (pc + 3) L (st) σ) : WA p l e R s m args below meth c nL E nc ns Q (pc) L (.int x :: st) σ := fun H locs ls hP hD hS hl => lv_if_ne cx.1 cx.2.1 hd ht (fun h => kt h H locs ls hP hD hS hl) (fun h => kf h H locs ls hP hD hS hl)
theorem wa_if_lt (cx : CX p s m args meth c cc own nL ret E) {x : Int32} {off : Int} (tgt : Nat) (hd : decode cc pc = .ok (.ifCond .lt off, 3)) (ht : (pc : Int) + off = (tgt : Int)) (kt : x < 0 → WA p l e R s m args below meth c nL E nc ns Q (tgt) L (st) σ) (kf : ¬ x < 0 → WA p l e R s m args below meth c nL E nc ns Q (pc + 3) L (st) σ) : WA p l e R s m args below meth c nL E nc ns Q (pc) L (.int x :: st) σ := fun H locs ls hP hD hS hl => lv_if_lt cx.1 cx.2.1 hd ht (fun h => kt h H locs ls hP hD hS hl) (fun h => kf h H locs ls hP hD hS hl)
theorem wa_if_ge (cx : CX p s m args meth c cc own nL ret E) {x : Int32} {off : Int} (tgt : Nat) (hd : decode cc pc = .ok (.ifCond .ge off, 3)) (ht : (pc : Int) + off = (tgt : Int)) (kt : 0 ≤ x → WA p l e R s m args below meth c nL E nc ns Q (tgt) L (st) σ) (kf : ¬ 0 ≤ x → WA p l e R s m args below meth c nL E nc ns Q (pc + 3) L (st) σ) : WA p l e R s m args below meth c nL E nc ns Q (pc) L (.int x :: st) σ := fun H locs ls hP hD hS hl => lv_if_ge cx.1 cx.2.1 hd ht (fun h => kt h H locs ls hP hD hS hl) (fun h => kf h H locs ls hP hD hS hl)
theorem wa_if_gt (cx : CX p s m args meth c cc own nL ret E) {x : Int32} {off : Int} (tgt : Nat) (hd : decode cc pc = .ok (.ifCond .gt off, 3)) (ht : (pc : Int) + off = (tgt : Int)) (kt : 0 < x → WA p l e R s m args below meth c nL E nc ns Q (tgt) L (st) σ) (kf : ¬ 0 < x → WA p l e R s m args below meth c nL E nc ns Q (pc + 3) L (st) σ) : WA p l e R s m args below meth c nL E nc ns Q (pc) L (.int x :: st) σ := fun H locs ls hP hD hS hl => lv_if_gt cx.1 cx.2.1 hd ht (fun h => kt h H locs ls hP hD hS hl) (fun h => kf h H locs ls hP hD hS hl)
theorem wa_if_le (cx : CX p s m args meth c cc own nL ret E) {x : Int32} {off : Int} (tgt : Nat) (hd : decode cc pc = .ok (.ifCond .le off, 3)) (ht : (pc : Int) + off = (tgt : Int)) (kt : x ≤ 0 → WA p l e R s m args below meth c nL E nc ns Q (tgt) L (st) σ) (kf : ¬ x ≤ 0 → WA p l e R s m args below meth c nL E nc ns Q (pc + 3) L (st) σ) : WA p l e R s m args below meth c nL E nc ns Q (pc) L (.int x :: st) σ := fun H locs ls hP hD hS hl => lv_if_le cx.1 cx.2.1 hd ht (fun h => kt h H locs ls hP hD hS hl) (fun h => kf h H locs ls hP hD hS hl)
theorem wa_icmp_eq (cx : CX p s m args meth c cc own nL ret E) {x y : Int32} {off : Int} (tgt : Nat) (hd : decode cc pc = .ok (.if_icmp .eq off, 3)) (ht : (pc : Int) + off = (tgt : Int)) (kt : x = y → WA p l e R s m args below meth c nL E nc ns Q (tgt) L (st) σ) (kf : ¬ x = y → WA p l e R s m args below meth c nL E nc ns Q (pc + 3) L (st) σ) : WA p l e R s m args below meth c nL E nc ns Q (pc) L (.int y :: .int x :: st) σ := fun H locs ls hP hD hS hl => lv_icmp_eq cx.1 cx.2.1 hd ht (fun h => kt h H locs ls hP hD hS hl) (fun h => kf h H locs ls hP hD hS hl)
theorem wa_icmp_ne (cx : CX p s m args meth c cc own nL ret E) {x y : Int32} {off : Int} (tgt : Nat) (hd : decode cc pc = .ok (.if_icmp .ne off, 3)) (ht : (pc : Int) + off = (tgt : Int)) (kt : ¬ x = y → WA p l e R s m args below meth c nL E nc ns Q (tgt) L (st) σ) (kf : x = y → WA p l e R s m args below meth c nL E nc ns Q (pc + 3) L (st) σ) : WA p l e R s m args below meth c nL E nc ns Q (pc) L (.int y :: .int x :: st) σ := fun H locs ls hP hD hS hl => lv_icmp_ne cx.1 cx.2.1 hd ht (fun h => kt h H locs ls hP hD hS hl) (fun h => kf h H locs ls hP hD hS hl)
theorem wa_icmp_lt (cx : CX p s m args meth c cc own nL ret E) {x y : Int32} {off : Int} (tgt : Nat) (hd : decode cc pc = .ok (.if_icmp .lt off, 3)) (ht : (pc : Int) + off = (tgt : Int)) (kt : x < y → WA p l e R s m args below meth c nL E nc ns Q (tgt) L (st) σ) (kf : ¬ x < y → WA p l e R s m args below meth c nL E nc ns Q (pc + 3) L (st) σ) : WA p l e R s m args below meth c nL E nc ns Q (pc) L (.int y :: .int x :: st) σ := fun H locs ls hP hD hS hl => lv_icmp_lt cx.1 cx.2.1 hd ht (fun h => kt h H locs ls hP hD hS hl) (fun h => kf h H locs ls hP hD hS hl)
theorem wa_icmp_ge (cx : CX p s m args meth c cc own nL ret E) {x y : Int32} {off : Int} (tgt : Nat) (hd : decode cc pc = .ok (.if_icmp .ge off, 3)) (ht : (pc : Int) + off = (tgt : Int)) (kt : y ≤ x → WA p l e R s m args below meth c nL E nc ns Q (tgt) L (st) σ) (kf : ¬ y ≤ x → WA p l e R s m args below meth c nL E nc ns Q (pc + 3) L (st) σ) : WA p l e R s m args below meth c nL E nc ns Q (pc) L (.int y :: .int x :: st) σ := fun H locs ls hP hD hS hl => lv_icmp_ge cx.1 cx.2.1 hd ht (fun h => kt h H locs ls hP hD hS hl) (fun h => kf h H locs ls hP hD hS hl)
theorem wa_icmp_gt (cx : CX p s m args meth c cc own nL ret E) {x y : Int32} {off : Int} (tgt : Nat) (hd : decode cc pc = .ok (.if_icmp .gt off, 3)) (ht : (pc : Int) + off = (tgt : Int)) (kt : y < x → WA p l e R s m args below meth c nL E nc ns Q (tgt) L (st) σ) (kf : ¬ y < x → WA p l e R s m args below meth c nL E nc ns Q (pc + 3) L (st) σ) : WA p l e R s m args below meth c nL E nc ns Q (pc) L (.int y :: .int x :: st) σ := fun H locs ls hP hD hS hl => lv_icmp_gt cx.1 cx.2.1 hd ht (fun h => kt h H locs ls hP hD hS hl) (fun h => kf h H locs ls hP hD hS hl)
theorem wa_icmp_le (cx : CX p s m args meth c cc own nL ret E) {x y : Int32} {off : Int} (tgt : Nat) (hd : decode cc pc = .ok (.if_icmp .le off, 3)) (ht : (pc : Int) + off = (tgt : Int)) (kt : x ≤ y → WA p l e R s m args below meth c nL E nc ns Q (tgt) L (st) σ) (kf : ¬ x ≤ y → WA p l e R s m args below meth c nL E nc ns Q (pc + 3) L (st) σ) : WA p l e R s m args below meth c nL E nc ns Q (pc) L (.int y :: .int x :: st) σ := fun H locs ls hP hD hS hl => lv_icmp_le cx.1 cx.2.1 hd ht (fun h => kt h H locs ls hP hD hS hl) (fun h => kf h H locs ls hP hD hS hl)
theorem wa_goto (cx : CX p s m args meth c cc own nL ret E) {off : Int} (tgt : Nat) (hd : decode cc pc = .ok (.goto off, 3)) (ht : (pc : Int) + off = (tgt : Int)) (k : WA p l e R s m args below meth c nL E nc ns Q (tgt) L (st) σ) : WA p l e R s m args below meth c nL E nc ns Q (pc) L (st) σ := fun H locs ls hP hD hS hl => lv_goto cx.1 cx.2.1 hd ht (k H locs ls hP hD hS hl)
theorem wa_tabIn (cx : CX p s m args meth c cc own nL ret E) {dflt lo hi : Int} {offs : Array Int} {len : Nat} {x : Int32} {off : Int} (tgt : Nat) (hd : decode cc pc = .ok (.tableswitch dflt lo hi offs, len)) (h1 : ¬ x.toInt < lo) (h2 : ¬ hi < x.toInt) (ho : offs[(x.toInt - lo).toNat]? = some off) (ht : (pc : Int) + off = (tgt : Int)) (k : WA p l e R s m args below meth c nL E nc ns Q (tgt) L (st) σ) : WA p l e R s m args below meth c nL E nc ns Q (pc) L (.int x :: st) σ := fun H locs ls hP hD hS hl => lv_tableIn cx.1 cx.2.1 hd h1 h2 ho ht (k H locs ls hP hD hS hl)
theorem wa_tabOut (cx : CX p s m args meth c cc own nL ret E) {dflt lo hi : Int} {offs : Array Int} {len : Nat} {x : Int32} (tgt : Nat) (hd : decode cc pc = .ok (.tableswitch dflt lo hi offs, len)) (h : x.toInt < lo ∨ hi < x.toInt) (ht : (pc : Int) + dflt = (tgt : Int)) (k : WA p l e R s m args below meth c nL E nc ns Q (tgt) L (st) σ) : WA p l e R s m args below meth c nL E nc ns Q (pc) L (.int x :: st) σ := fun H locs ls hP hD hS hl => lv_tableOut cx.1 cx.2.1 hd h ht (k H locs ls hP hD hS hl)
theorem CX.bl (cx : CX p s m args meth c cc own nL ret E) (q : Nat) (h : Nat.ble (q + 1) 52 = true) : q ∈ eL E := cx.2.2.2.2.2.2.2.2.2 q (Nat.le_of_ble_eq_true h)
/-- a field by its link -/
def FLk (own : String) (idx ci k : Nat) : Prop := ∃ (C : String) (T : u_T) (N : Nat), vwCl[ci]? = some (C, T, N) ∧ k < N ∧ (∀ w ∈ u_ws C T N, w ∈ gw) ∧ Cond.fieldLink own idx (T k).1 (T k).2.1 (T k).2.2.1 ∈ gw
def FPk (own : String) (idx ci k : Nat) (ty : FieldType) : Prop := ∃ (C : String) (T : u_T) (N : Nat) (t0 : Nat → FieldType), vwCl[ci]? = some (C, T, N) ∧ k < N ∧ (∀ w ∈ u_ws C T N, w ∈ gw) ∧ Cond.fieldLink own idx (T k).1 (T k).2.1 (T k).2.2.1 ∈ gw ∧ (∀ k, k < N → parseFieldDescriptor (T k).2.2.1 = some (t0 k)) ∧ (∀ a, a < N → ∀ b, b < N → a ≠ b → (T a).2.1 ≠ (T b).2.1) ∧ (T k).2.2.2 = false ∧ parseFieldDescriptor (T k).2.2.1 = some ty
theorem wa_getI (cx : CX p s m args meth c cc own nL ret E) {idx ci q j : Nat} {fl : List Nat} (hf : FLk own idx ci j) (hq : lkt q = (0, ci, fl)) (hj : fl[j]? = some (0)) (hm : q ∈ eL E) (hd : decode cc pc = .ok (.getfield idx, 3)) (k : WA p l e R s m args below meth c nL E nc ns Q (pc + 3) L (.int (gf σ q j) :: st) σ) : WA p l e R s m args below meth c nL E nc ns Q (pc) L (.ref (eA E q) :: st) σ := by
  intro H locs ls hP hD hS hl
  obtain ⟨C, T, N, f1, f2, f3, f4⟩ := hf
  obtain ⟨i, -, hi⟩ := wl_at (σ := σ) hm
  rw [lay_obj hq] at hi
  have hv := fvs_get (E := E) (σ := σ) (c := q) fl 0 j _ hj
  rw [Nat.zero_add] at hv
  exact va_get cx.1 cx.2.1 cx.2.2.2.2.1 f3 cx.2.2.2.1 cx.2.2.2.2.2.1 hP i hi f1 j f2 (cx.2.2.2.2.1 _ f4) (fun _ h => h) hv hd (k H locs ls hP hD hS hl)
theorem wa_getL (cx : CX p s m args meth c cc own nL ret E) {idx ci q j : Nat} {fl : List Nat} (hf : FLk own idx ci j) (hq : lkt q = (0, ci, fl)) (hj : fl[j]? = some (1)) (hm : q ∈ eL E) (hd : decode cc pc = .ok (.getfield idx, 3)) (k : WA p l e R s m args below meth c nL E nc ns Q (pc + 3) L (.long σ.2.1 :: st) σ) : WA p l e R s m args below meth c nL E nc ns Q (pc) L (.ref (eA E q) :: st) σ := by
  intro H locs ls hP hD hS hl
  obtain ⟨C, T, N, f1, f2, f3, f4⟩ := hf
  obtain ⟨i, -, hi⟩ := wl_at (σ := σ) hm
  rw [lay_obj hq] at hi
  have hv := fvs_get (E := E) (σ := σ) (c := q) fl 0 j _ hj
  rw [Nat.zero_add] at hv
  exact va_get cx.1 cx.2.1 cx.2.2.2.2.1 f3 cx.2.2.2.1 cx.2.2.2.2.2.1 hP i hi f1 j f2 (cx.2.2.2.2.1 _ f4) (fun _ h => h) hv hd (k H locs ls hP hD hS hl)
theorem wa_getR (cx : CX p s m args meth c cc own nL ret E) {idx ci q j : Nat} {fl : List Nat} {t : Nat} (hf : FLk own idx ci j) (hq : lkt q = (0, ci, fl)) (hj : fl[j]? = some (t + 2)) (hm : q ∈ eL E) (hd : decode cc pc = .ok (.getfield idx, 3)) (k : WA p l e R s m args below meth c nL E nc ns Q (pc + 3) L (.ref (eA E t) :: st) σ) : WA p l e R s m args below meth c nL E nc ns Q (pc) L (.ref (eA E q) :: st) σ := by
  intro H locs ls hP hD hS hl
  obtain ⟨C, T, N, f1, f2, f3, f4⟩ := hf
  obtain ⟨i, -, hi⟩ := wl_at (σ := σ) hm
  rw [lay_obj hq] at hi
  have hv := fvs_get (E := E) (σ := σ) (c := q) fl 0 j _ hj
  rw [Nat.zero_add] at hv
  exact va_get cx.1 cx.2.1 cx.2.2.2.2.1 f3 cx.2.2.2.1 cx.2.2.2.2.2.1 hP i hi f1 j f2 (cx.2.2.2.2.1 _ f4) (fun _ h => h) hv hd (k H locs ls hP hD hS hl)
theorem isz_nar {v : Int32} (h : isz v = true) : narrow .boolean (.int v) = .int v ∧ fits .boolean (.int v) = true := by
  rcases of_decide_eq_true h with rfl | rfl <;> exact ⟨by decide, by decide⟩
theorem wa_putI (cx : CX p s m args meth c cc own nL ret E) {idx ci q j : Nat} {fl : List Nat} {v : Int32} (hf : FPk own idx ci j .int) (hq : lkt q = (0, ci, fl)) (hj : fl[j]? = some (0)) (hm : q ∈ eL E) (hd : decode cc pc = .ok (.putfield idx, 3)) (k : WA p l e R s m args below meth c nL E nc ns Q (pc + 3) L (st) (sup σ q j v)) : WA p l e R s m args below meth c nL E nc ns Q (pc) L (.int v :: .ref (eA E q) :: st) σ := by
  intro H locs ls hP hD hS hl
  obtain ⟨C, T, N, t0, f1, f2, f3, f4, f5, f6, f7, f8⟩ := hf
  obtain ⟨i, hiL, hi⟩ := wl_at (σ := σ) hm
  rw [lay_obj hq] at hi
  refine va_put cx.1 cx.2.1 cx.2.2.2.2.1 f3 t0 f5 f6 cx.2.2.2.1 cx.2.2.2.2.2.1 hP hD hS i hi f1 j f2 (cx.2.2.2.2.1 _ f4) (fun _ h => h) f7 f8 rfl rfl (by rw [fvs_len]; exact (List.getElem?_eq_some_iff.mp hj).1) hd (fun H1 locs1 hP1 hD1 hS1 => ?_)
  have e : (wl E σ).set i (eA E q, .inr (ci, (fvs E σ q 0 fl).set j (.int v))) = wl E (sup σ q j v) := wl_set hD hiL (by rw [lay_obj hq, fvs_put fl 0 j hj, Nat.zero_add]) (lay_scel)
  rw [e] at hP1
  exact k H1 locs1 ls hP1 (wl_D hD) hS1 hl
theorem wa_putZ (cx : CX p s m args meth c cc own nL ret E) {idx ci q j : Nat} {fl : List Nat} {v : Int32} (hf : FPk own idx ci j .boolean) (hq : lkt q = (0, ci, fl)) (hj : fl[j]? = some (0)) (hm : q ∈ eL E) (hz : isz v = true) (hd : decode cc pc = .ok (.putfield idx, 3)) (k : WA p l e R s m args below meth c nL E nc ns Q (pc + 3) L (st) (sup σ q j v)) : WA p l e R s m args below meth c nL E nc ns Q (pc) L (.int v :: .ref (eA E q) :: st) σ := by
  intro H locs ls hP hD hS hl
  obtain ⟨C, T, N, t0, f1, f2, f3, f4, f5, f6, f7, f8⟩ := hf
  obtain ⟨i, hiL, hi⟩ := wl_at (σ := σ) hm
  rw [lay_obj hq] at hi
  refine va_put cx.1 cx.2.1 cx.2.2.2.2.1 f3 t0 f5 f6 cx.2.2.2.1 cx.2.2.2.2.2.1 hP hD hS i hi f1 j f2 (cx.2.2.2.2.1 _ f4) (fun _ h => h) f7 f8 (isz_nar hz).1 (isz_nar hz).2 (by rw [fvs_len]; exact (List.getElem?_eq_some_iff.mp hj).1) hd (fun H1 locs1 hP1 hD1 hS1 => ?_)
  have e : (wl E σ).set i (eA E q, .inr (ci, (fvs E σ q 0 fl).set j (.int v))) = wl E (sup σ q j v) := wl_set hD hiL (by rw [lay_obj hq, fvs_put fl 0 j hj, Nat.zero_add]) (lay_scel)
  rw [e] at hP1
  exact k H1 locs1 ls hP1 (wl_D hD) hS1 hl
theorem wa_putL (cx : CX p s m args meth c cc own nL ret E) {idx ci q j : Nat} {fl : List Nat} {v : Int64} (hf : FPk own idx ci j .long) (hq : lkt q = (0, ci, fl)) (hj : fl[j]? = some (1)) (hm : q ∈ eL E) (hu : ∀ k, fl[k]? = some 1 → k = j) (h38 : q = 38) (hd : decode cc pc = .ok (.putfield idx, 3)) (k : WA p l e R s m args below meth c nL E nc ns Q (pc + 3) L (st) (slg σ v)) : WA p l e R s m args below meth c nL E nc ns Q (pc) L (.long v :: .ref (eA E q) :: st) σ := by
  intro H locs ls hP hD hS hl
  obtain ⟨C, T, N, t0, f1, f2, f3, f4, f5, f6, f7, f8⟩ := hf
  obtain ⟨i, hiL, hi⟩ := wl_at (σ := σ) hm
  rw [lay_obj hq] at hi
  refine va_put cx.1 cx.2.1 cx.2.2.2.2.1 f3 t0 f5 f6 cx.2.2.2.1 cx.2.2.2.2.2.1 hP hD hS i hi f1 j f2 (cx.2.2.2.2.1 _ f4) (fun _ h => h) f7 f8 rfl rfl (by rw [fvs_len]; exact (List.getElem?_eq_some_iff.mp hj).1) hd (fun H1 locs1 hP1 hD1 hS1 => ?_)
  have e : (wl E σ).set i (eA E q, .inr (ci, (fvs E σ q 0 fl).set j (.long v))) = wl E (slg σ v) := wl_set hD hiL (by rw [lay_obj hq, fvs_putL fl 0 j hj hu]) (fun k _ hk => lay_congr rfl (Or.inr (lkt_long k (by rw [← h38]; exact hk))) rfl)
  rw [e] at hP1
  exact k H1 locs1 ls hP1 (wl_D hD) hS1 hl
theorem wa_iald (cx : CX p s m args meth c cc own nL ret E) {q n : Nat} {fl : List Nat} {i : Int32} (hq : lkt q = (1, n, fl)) (hm : q ∈ eL E) (hin : inb i n = true) (hd : decode cc pc = .ok (.iaload, 1)) (k : WA p l e R s m args below meth c nL E nc ns Q (pc + 1) L (.int (ga σ q i) :: st) σ) : WA p l e R s m args below meth c nL E nc ns Q (pc) L (.int i :: .ref (eA E q) :: st) σ := by
  intro H locs ls hP hD hS hl
  obtain ⟨j, -, hj⟩ := wl_at (σ := σ) hm
  rw [lay_int hq] at hj
  exact va_iald cx.1 cx.2.1 cx.2.2.2.2.2.1 hP j 0 hj rfl (inb_vp hin) hd (k H locs ls hP hD hS hl)
theorem wa_bald (cx : CX p s m args meth c cc own nL ret E) {q n : Nat} {fl : List Nat} {i : Int32} (hq : lkt q = (2, n, fl)) (hm : q ∈ eL E) (hin : inb i n = true) (hd : decode cc pc = .ok (.baload, 1)) (k : WA p l e R s m args below meth c nL E nc ns Q (pc + 1) L (.int (ga σ q i) :: st) σ) : WA p l e R s m args below meth c nL E nc ns Q (pc) L (.int i :: .ref (eA E q) :: st) σ := by
  intro H locs ls hP hD hS hl
  obtain ⟨j, -, hj⟩ := wl_at (σ := σ) hm
  rw [lay_byte hq] at hj
  exact va_bald cx.1 cx.2.1 cx.2.2.2.2.2.1 hP j 1 hj rfl (inb_vp hin) hd (k H locs ls hP hD hS hl)
theorem wa_zald (cx : CX p s m args meth c cc own nL ret E) {q n : Nat} {fl : List Nat} {i : Int32} (hq : lkt q = (3, n, fl)) (hm : q ∈ eL E) (hin : inb i n = true) (hd : decode cc pc = .ok (.baload, 1)) (k : WA p l e R s m args below meth c nL E nc ns Q (pc + 1) L (.int (ga σ q i) :: st) σ) : WA p l e R s m args below meth c nL E nc ns Q (pc) L (.int i :: .ref (eA E q) :: st) σ := by
  intro H locs ls hP hD hS hl
  obtain ⟨j, -, hj⟩ := wl_at (σ := σ) hm
  rw [lay_bool hq] at hj
  exact va_zald cx.1 cx.2.1 cx.2.2.2.2.2.1 hP j 2 hj rfl (inb_vp hin) hd (k H locs ls hP hD hS hl)
theorem wa_iast (cx : CX p s m args meth c cc own nL ret E) {q n : Nat} {fl : List Nat} {i v : Int32} (hq : lkt q = (1, n, fl)) (hm : q ∈ eL E) (hin : inb i n = true) (hd : decode cc pc = .ok (.iastore, 1)) (k : WA p l e R s m args below meth c nL E nc ns Q (pc + 1) L (st) (sa σ q i (v))) : WA p l e R s m args below meth c nL E nc ns Q (pc) L (.int v :: .int i :: .ref (eA E q) :: st) σ := by
  intro H locs ls hP hD hS hl
  obtain ⟨j, hjL, hj⟩ := wl_at (σ := σ) hm
  rw [lay_int hq] at hj
  refine va_iast cx.1 cx.2.1 cx.2.2.2.2.2.1 hP hD hS j 0 hj rfl (inb_vp hin) hd (fun H1 locs1 hP1 hD1 hS1 => ?_)
  have e : (wl E σ).set j (eA E q, .inl (eY E 0, n, .inl (upd (σ.1 q) i.toNatClampNeg (v)))) = wl E (sa σ q i (v)) := wl_set hD hjL (by rw [lay_int hq]; unfold sa sup; rw [scel_same]) lay_scel
  rw [e] at hP1
  exact k H1 locs1 ls hP1 (wl_D hD) hS1 hl
theorem wa_bast (cx : CX p s m args meth c cc own nL ret E) {q n : Nat} {fl : List Nat} {i v : Int32} (hq : lkt q = (2, n, fl)) (hm : q ∈ eL E) (hin : inb i n = true) (hd : decode cc pc = .ok (.bastore, 1)) (k : WA p l e R s m args below meth c nL E nc ns Q (pc + 1) L (st) (sa σ q i (i2b v))) : WA p l e R s m args below meth c nL E nc ns Q (pc) L (.int v :: .int i :: .ref (eA E q) :: st) σ := by
  intro H locs ls hP hD hS hl
  obtain ⟨j, hjL, hj⟩ := wl_at (σ := σ) hm
  rw [lay_byte hq] at hj
  refine va_bast cx.1 cx.2.1 cx.2.2.2.2.2.1 hP hD hS j 1 hj rfl (inb_vp hin) hd (fun H1 locs1 hP1 hD1 hS1 => ?_)
  have e : (wl E σ).set j (eA E q, .inl (eY E 1, n, .inl (upd (σ.1 q) i.toNatClampNeg (vp_nar .byte v)))) = wl E (sa σ q i (i2b v)) := wl_set hD hjL (by rw [lay_byte hq]; unfold sa sup; rw [scel_same]; rfl) lay_scel
  rw [e] at hP1
  exact k H1 locs1 ls hP1 (wl_D hD) hS1 hl
theorem wa_zast (cx : CX p s m args meth c cc own nL ret E) {q n : Nat} {fl : List Nat} {i v : Int32} (hq : lkt q = (3, n, fl)) (hm : q ∈ eL E) (hin : inb i n = true) (hd : decode cc pc = .ok (.bastore, 1)) (k : WA p l e R s m args below meth c nL E nc ns Q (pc + 1) L (st) (sa σ q i (vp_nar .boolean v))) : WA p l e R s m args below meth c nL E nc ns Q (pc) L (.int v :: .int i :: .ref (eA E q) :: st) σ := by
  intro H locs ls hP hD hS hl
  obtain ⟨j, hjL, hj⟩ := wl_at (σ := σ) hm
  rw [lay_bool hq] at hj
  refine va_zast cx.1 cx.2.1 cx.2.2.2.2.2.1 hP hD hS j 2 hj rfl (inb_vp hin) hd (fun H1 locs1 hP1 hD1 hS1 => ?_)
  have e : (wl E σ).set j (eA E q, .inl (eY E 2, n, .inl (upd (σ.1 q) i.toNatClampNeg (vp_nar .boolean v)))) = wl E (sa σ q i (vp_nar .boolean v)) := wl_set hD hjL (by rw [lay_bool hq]; unfold sa sup; rw [scel_same]) lay_scel
  rw [e] at hP1
  exact k H1 locs1 ls hP1 (wl_D hD) hS1 hl
def cpk (sp dp n : Int32) (n0 n1 : Nat) : Bool := decide (¬ sp < 0 ∧ ¬ dp < 0 ∧ ¬ n < 0 ∧ sp.toNatClampNeg + n.toNatClampNeg ≤ n0 ∧ dp.toNatClampNeg + n.toNatClampNeg ≤ n1)
def scp (σ : Sg) (q0 q1 : Nat) (sp dp n : Int32) : Sg := scel σ q1 (va_cpy (σ.1 q0) (σ.1 q1) sp.toNatClampNeg dp.toNatClampNeg n.toNatClampNeg)
theorem wa_copy (cx : CX p s m args meth c cc own nL ret E) {q0 q1 n0 n1 idx : Nat} {f0 f1 : List Nat} {sp dp n : Int32} (h0 : lkt q0 = (1, n0, f0)) (h1 : lkt q1 = (1, n1, f1)) (hm0 : q0 ∈ eL E) (hm1 : q1 ∈ eL E) (hk : cpk sp dp n n0 n1 = true) (hw : Cond.methodLink own idx arraycopyName ∈ gw) (hst : (st.map fun v => v.category).sum + 40 ≤ R.locals) (hfr : 1 ≤ R.frames) (hd : decode cc pc = .ok (.invokestatic idx, 3)) (k : WA p l e R s m args below meth c nL E nc ns Q (pc + 3) L (st) (scp σ q0 q1 sp dp n)) : WA p l e R s m args below meth c nL E nc ns Q (pc) L (.int n :: .int dp :: .ref (eA E q1) :: .int sp :: .ref (eA E q0) :: st) σ := by
  intro H locs ls hP hD hS hl
  obtain ⟨j0, -, hj0⟩ := wl_at (σ := σ) hm0
  obtain ⟨j1, hjL, hj1⟩ := wl_at (σ := σ) hm1
  rw [lay_int h0] at hj0
  rw [lay_int h1] at hj1
  obtain ⟨k1, k2, k3, k4, k5⟩ := of_decide_eq_true hk
  have e9 : nativeFrameWords "java/lang/System" "arraycopy" 5 + 11 ≤ 40 := by decide +kernel
  have h9 : (st.map fun v => v.category).sum + (nativeFrameWords "java/lang/System" "arraycopy" 5 + 11) ≤ R.locals := by omega
  have ht := cx.2.2.2.2.1
  refine va_copyi cx.1 cx.2.1 (cx.2.2.1.trans hl.1.symm) cx.2.2.2.1 (ht _ hw) (ht _ tw_397) (ht _ tw_396) (ht _ tw_69) cx.2.2.2.2.2.1 hP hD hS j0 j1 0 0 hj0 hj1 rfl rfl rfl k1 k2 k3 k4 k5 (fun _ _ => rfl) hfr h9 hd (fun H1 locs1 hP1 hD1 hS1 => ?_)
  have e : (wl E σ).set j1 (eA E q1, .inl (eY E 0, n1, .inl (va_cpy (σ.1 q0) (σ.1 q1) sp.toNatClampNeg dp.toNatClampNeg n.toNatClampNeg))) = wl E (scp σ q0 q1 sp dp n) := wl_set hD hjL (by rw [lay_int h1]; unfold scp; rw [scel_same]) lay_scel
  rw [e] at hP1
  exact k H1 locs1 ls hP1 (wl_D hD) hS1 hl
theorem wa_mmax (cx : CX p s m args meth c cc own nL ret E) {idx : Nat} {x y : Int32} (hw : Cond.methodLink own idx Lib.Math.max.name ∈ gw) (hst : (st.map fun v => v.category).sum + 40 ≤ R.locals) (hfr : 1 ≤ R.frames) (hc : nc ≤ R.cells ∧ ns ≤ R.slots) (hd : decode cc pc = .ok (.invokestatic idx, 3)) (k : WA p l e R s m args below meth c nL E nc ns Q (pc + 3) L (.int (jmax x y) :: st) σ) : WA p l e R s m args below meth c nL E nc ns Q (pc) L (.int y :: .int x :: st) σ := by
  intro H locs ls hP hD hS hl
  have ht := cx.2.2.2.2.1
  exact va_mmax cx.1 cx.2.1 (cx.2.2.1.trans hl.1.symm) cx.2.2.2.1 (ht _ hw) (ht _ tw_589) (ht _ tw_74) (ht _ tw_590) hfr (by omega) hc.1 hc.2 hd (k H locs ls hP hD hS hl)
theorem wa_mmin (cx : CX p s m args meth c cc own nL ret E) {idx : Nat} {x y : Int32} (hw : Cond.methodLink own idx Lib.Math.min.name ∈ gw) (hst : (st.map fun v => v.category).sum + 40 ≤ R.locals) (hfr : 1 ≤ R.frames) (hc : nc ≤ R.cells ∧ ns ≤ R.slots) (hd : decode cc pc = .ok (.invokestatic idx, 3)) (k : WA p l e R s m args below meth c nL E nc ns Q (pc + 3) L (.int (jmin x y) :: st) σ) : WA p l e R s m args below meth c nL E nc ns Q (pc) L (.int y :: .int x :: st) σ := by
  intro H locs ls hP hD hS hl
  have ht := cx.2.2.2.2.1
  exact va_mmin cx.1 cx.2.1 (cx.2.2.1.trans hl.1.symm) cx.2.2.2.1 (ht _ hw) (ht _ tw_573) (ht _ tw_74) (ht _ tw_574) hfr (by omega) hc.1 hc.2 hd (k H locs ls hP hD hS hl)
theorem wa_gets (cx : CX p s m args meth c cc own nL ret E) {idx : Nat} (i : Nat) (hi : i < 3) (hw : Cond.fieldLink own idx RX4 (snm i) "[I" ∈ gw) (hd : decode cc pc = .ok (.getstatic idx, 3)) (k : WA p l e R s m args below meth c nL E nc ns Q (pc + 3) L (.ref (eT E i) :: st) σ) : WA p l e R s m args below meth c nL E nc ns Q (pc) L (st) σ := fun H locs ls hP hD hS hl => va_gets cx.1 cx.2.1 (cx.2.2.2.2.2.2.2.2.1.1 i hi).1 hS cx.2.2.2.1 (cx.2.2.2.2.1 _ hw) (fun _ h => h) hd (k H locs ls hP hD hS hl)
theorem wa_tald (cx : CX p s m args meth c cc own nL ret E) {q : Nat} {i : Int32} (hq : q < 3) (hin : inb i 6 = true) (hd : decode cc pc = .ok (.iaload, 1)) (k : WA p l e R s m args below meth c nL E nc ns Q (pc + 1) L (.int ((stv q).getD i.toNatClampNeg 0) :: st) σ) : WA p l e R s m args below meth c nL E nc ns Q (pc) L (.int i :: .ref (eT E q) :: st) σ := fun H locs ls hP hD hS hl => va_ti cx.1 cx.2.1 (cx.2.2.2.2.2.2.2.2.1.1 q hq).2 hS (inb_vp hin) rfl hd (k H locs ls hP hD hS hl)
end WArows
end
section
def rmd (d : Nat) : Room := { frames := d, cells := 0, slots := 0, locals := 48 * d }
/-- a contract's start and end -/
def Pcq (E : En) (sz : Nat) (σ : Sg) (av : List Value) : Array Value → State → Prop := va_Pc av (fun U => U.heap.size = sz ∧ va_P (eD E) vwCl (wl E σ) U.heap ∧ va_K (eD E) vwCl (tysE E) U ∧ va_D (fun _ => True) (wl E σ) ∧ SF E U ∧ BL E)
def Qcq (E : En) (sz : Nat) (r : Option Value) (σ : Sg) : Array Value → State → Outcome → State → Prop := fun _ st oc t => oc = .returned r ∧ va_P (eD E) vwCl (wl E σ) t.heap ∧ va_F (AE E sz) st t
/-- a contract: from the world σ the method y, called with av, answers r and leaves the world τ; nothing new is made -/
def CT (l : Launch) (y : MethodName) (cy : ByteArray) (mL : Nat) (rt : Option FieldType) (d : Nat) (E : En) (σ : Sg) (av : List Value) (r : Option Value) (τ : Sg) : Prop := ∀ sz : Nat, Met l y (Cond.code y cy mL rt :: gw) (rmd d) (Pcq E sz σ av) (Qcq E sz r τ) 0 0 (AE E sz)
theorem Pcq_blind {E : En} {sz : Nat} {σ : Sg} {av : List Value} : FrameBlind (Pcq E sz σ av) := by
  intro a U g mk q
  obtain ⟨q0, q1, qP, qK, qD, qS, qB⟩ := q
  exact ⟨q0, q1, qP, va_K.moved (u := U) (U := U.calling g mk a) (Vm.Alike.refl U.vm) qK, qD, qS.same rfl rfl, qB⟩
def entL : Nat → List Value → List (Option Value)
  | n, [] => List.replicate n none
  | n, v :: vs => if v.category = 2 then some v :: none :: entL (n - 2) vs else some v :: entL (n - 1) vs
theorem entL_args : ∀ (vs : List Value) (n i k : Nat) (v : Value), (entL n vs)[k]? = some (some v) → (i + k, v) ∈ lv_args i vs
  | [], n, i, k, v, h => by
    have := List.eq_of_mem_replicate (List.mem_of_getElem? h)
    cases this
  | u :: vs, n, i, k, v, h => by
    by_cases hc : u.category = 2
    · simp only [entL, hc, if_true] at h
      simp only [lv_args, hc, if_true]
      match k, h with
      | 0, h => cases h; exact List.mem_cons_self
      | 1, h => cases h
      | k + 2, h =>
        simp only [List.getElem?_cons_succ] at h
        have := entL_args vs (n - 2) (i + 2) k v h
        rw [show i + (k + 2) = i + 2 + k by omega]
        exact List.mem_cons_of_mem _ this
    · simp only [entL, hc, if_false] at h
      simp only [lv_args, hc, if_false]
      match k, h with
      | 0, h => cases h; exact List.mem_cons_self
      | k + 1, h =>
        simp only [List.getElem?_cons_succ] at h
        have := entL_args vs (n - 1) (i + 1) k v h
        rw [show i + (k + 1) = i + 1 + k by omega]
        exact List.mem_cons_of_mem _ this
theorem AE_D {E : En} {σ : Sg} {A : Nat → Prop} {sz : Nat} (h : va_D A (wl E σ)) : va_D (AE E sz) (wl E σ) := ⟨h.1, fun k q hk => by
  obtain ⟨c, hc, rfl⟩ := wl_inv hk
  exact Or.inl ⟨c, List.mem_of_getElem? hc, rfl⟩⟩
/-- a contract out of a walk -/
theorem CT.of {l : Launch} {y : MethodName} {cy : ByteArray} {mL d : Nat} {rt : Option FieldType} {E : En} {σ τ : Sg} {av : List Value} {r : Option Value} (own : String) (L : List (Option Value)) (hown : y.cls = own) (hy : plainName y.cls = true) (hml : (lg_sl av).length ≤ mL) (hL : entL mL av = L)
    (body : ∀ (p : Program) (e : Env) (s : State) (m : MethodId) (args : Array Value) (below : List Frame) (meth : Method) (c : Code), CX p s m args meth c cy own mL rt E → WA p l e (rmd d) s m args below meth c mL E 0 0 (MQ below (Qcq E s.heap.size r τ) args s 0 0 (AE E s.heap.size)) 0 L [] σ) : CT l y cy mL rt d E σ av r τ := by
  intro sz
  refine Met.ofW (cc := cy) (maxL := mL) (ret := rt) hy rfl ?_
  intro p e s m args below meth c s₁ B hmL hv
  obtain ⟨rfl, hsz, hP, hK, hD, hSF, hBL⟩ := hv
  subst hsz
  have hts : ∀ w ∈ gw, w.before av.toArray s = true := fun w hw => atoms_spec (ws := Cond.code y cy mL rt :: gw) B.pre w (List.mem_cons_of_mem _ hw)
  have hfc : s.vm.findClass own = some m.cls := by rw [← hown]; exact findClass_of_methodNamed B.named
  rw [lg_entry_eq]
  have hl := lv_entry av (n := mL) hml
  refine body p e s m av.toArray below meth c ⟨B.exec, B.bytes, hmL, hfc, hts, hK, B.returns, B.notSynchronized, hSF, hBL⟩ s.heap [] _ hP (AE_D hD) va_S.rf ⟨hl.1, hl.2.1, fun k v hk => ?_⟩
  subst hL
  have := entL_args av mL 0 k v hk
  rw [Nat.zero_add] at this
  exact hl.2.2 (k, v) this
/-- a method: its words, once -/
def MI (y : MethodName) (cy : ByteArray) (mL : Nat) (rt : Option FieldType) (n : Nat) : Prop := Cond.instanceMethod y ∈ gw ∧ Cond.selects y.cls y y ∈ gw ∧ Cond.initialized y.cls ∈ gw ∧ Cond.code y cy mL rt ∈ gw ∧ y.cls ≠ "java/lang/invoke/MethodHandle" ∧ y.cls ≠ "java/lang/invoke/VarHandle" ∧ (parseMethodDescriptor y.desc).map (fun d => d.parameters.length) = some n
def MS (y : MethodName) (cy : ByteArray) (mL : Nat) (rt : Option FieldType) (n : Nat) : Prop := Cond.static y ∈ gw ∧ Cond.initialized y.cls ∈ gw ∧ Cond.code y cy mL rt ∈ gw ∧ y.cls ≠ "java/lang/invoke/MethodHandle" ∧ y.cls ≠ "java/lang/invoke/VarHandle" ∧ (parseMethodDescriptor y.desc).map (fun d => d.parameters.length) = some n
theorem gi_of {ws : List Cond} (h : ∀ w ∈ ws, w ∈ gw) : GoodIn gw ws := fun w hw => tbl_gi w (h w hw)
section WArows
variable {p : Program} {l : Launch} {e : Env} {R : Room} {s : State} {m : MethodId} {args : Array Value} {below : List Frame} {meth : Method} {c : Code} {cc : ByteArray} {own : String} {nL : Nat} {ret : Option FieldType} {E : En} {Q : State → Prop} {nc ns pc : Nat} {L : List (Option Value)} {st : List Value} {σ : Sg}
theorem wa_run (cx : CX p s m args meth c cc own nL ret E) {mc ms : Nat} {r : Option Value} {τ : Sg} {H : Heap} {locs : List Loc} {ls : Array Slot} {st0 rest : List Value} {a : Array Value} {E1 : En} (hr : va_Run p l e R s m args below meth c H locs nc ns mc ms (F0 m pc ls st0) rest (Qcq E1 H.size r τ a) (AE E1 H.size)) (hS : va_S (AE E s.heap.size) s.heap H locs) (hA : ∀ q, AE E1 H.size q → AE E s.heap.size q)
    (k : ∀ (H1 : Heap) (locs1 : List Loc), va_P (eD E1) vwCl (wl E1 τ) H1 → va_S (AE E s.heap.size) s.heap H1 locs1 → W p l e R s m args below meth c H1 locs1 (nc + mc) (ns + ms) Q (F0 m (pc + 3) ls (r.toList ++ rest))) : W p l e R s m args below meth c H locs nc ns Q (F0 m pc ls st0) := by
  intro T hT X
  obtain ⟨v, st₀, t, T1, Lx, h0, X1, hLx, e1, e2, ⟨hv, hP1, hz, hk⟩, stp⟩ := hr T hT X
  cases hv
  rw [h0] at hz hk
  have hS1 : va_S (AE E s.heap.size) s.heap T1.heap (locs ++ Lx) := by
    refine ⟨Nat.le_trans hS.1 (by rw [e1]; exact hz), fun q g1 g2 => ?_, fun q hq => ?_⟩
    · rw [e1, hk q (Nat.lt_of_lt_of_le g1 hS.1) (fun z => g2 (hA q z))]
      exact hS.2.1 q g1 g2
    · rcases List.mem_append.mp hq with h | h
      · exact hS.2.2 q h
      · exact hA _ (hLx q h)
  obtain ⟨t2, a1, b1⟩ := k T1.heap (locs ++ Lx) (by rw [e1]; exact hP1) hS1 T1 rfl X1
  exact ⟨t2, stp t2 a1, b1⟩
theorem AE_up {E : En} {a b : Nat} (h : a ≤ b) : ∀ q, AE E b q → AE E a q := fun q hq => hq.imp id (fun z => Nat.le_trans h z)
theorem wa_callV0 (cx : CX p s m args meth c cc own nL ret E) {y : MethodName} {cy : ByteArray} {mL n idx b ci d : Nat} {rt : Option FieldType} {fl : List Nat} {As rest : List Value} {r : Option Value} {τ : Sg} (hC : CT l y cy mL rt d E σ (.ref (eA E b) :: As) r τ) (hmi : MI y cy mL rt n) (hlk : Cond.methodLink own idx y ∈ gw) (hb : lkt b = (0, ci, fl)) (hci : (vwCl[ci]?).map (fun q => q.1) = some y.cls) (hbL : b ∈ eL E) (hn : As.length = n) (hst : st = As.reverse ++ .ref (eA E b) :: rest) (hrs : (rest.map fun v => v.category).sum ≤ 8) (hR : d + 1 ≤ R.frames ∧ 8 + (mL + 11) + 48 * d ≤ R.locals) (hf : nc ≤ R.cells ∧ ns ≤ R.slots) (hd : decode cc pc = .ok (.invokevirtual idx, 3)) (k : WA p l e R s m args below meth c nL E nc ns Q (pc + 3) L (r.toList ++ rest) τ) : WA p l e R s m args below meth c nL E nc ns Q (pc) L (st) σ := by
  intro H locs ls hP hD hS hl
  subst hst
  obtain ⟨hi1, hi2, hi3, hi4, hi5⟩ := hmi
  have ht := cx.2.2.2.2.1
  have hws : ∀ w ∈ wsV own idx y.cls y (Cond.code y cy mL rt :: gw), w ∈ gw := by
    intro w hw
    unfold wsV at hw
    rcases List.mem_append.mp hw with h | h
    · simp only [List.mem_cons, List.not_mem_nil, or_false] at h
      rcases h with rfl | rfl | rfl | rfl
      · exact hlk
      · exact hi1
      · exact hi2
      · exact hi3
    · rcases List.mem_cons.mp h with rfl | h
      · exact hi4
      · exact h
  obtain ⟨i, hiL, hi⟩ := wl_at (σ := σ) hbL
  rw [lay_obj hb] at hi
  obtain ⟨q, hq, hqn⟩ := Option.map_eq_some_iff.mp hci
  have hrec := va_recv cx.2.2.2.2.2.1 hP hq hi
  rw [hqn] at hrec
  refine wa_run cx (va_runV (As := As) (rest := rest) (C := y.cls) ⟨cx.1, cx.2.1, cx.2.2.1, cx.2.2.2.1, ht⟩ (hC H.size) (cwV n ht (gi_of hws) rfl rfl rfl ⟨rfl, hi5⟩ hR) ⟨Pcq_blind, hrec, fun U hU hW => ⟨rfl, by rw [hU], by rw [hU]; exact hP, va_K.moved hW.alike cx.2.2.2.2.2.1, hD.weaken (fun _ _ _ _ => trivial), cx.2.2.2.2.2.2.2.2.1.move hS hU hW, cx.2.2.2.2.2.2.2.2.2⟩⟩ rfl hn hl.1 rfl (lv_room hrs) hd hf) hS (AE_up hS.1) (fun H1 locs1 hP1 hS1 => k H1 locs1 ls hP1 (wl_D hD) hS1 hl)
theorem wa_callS0 (cx : CX p s m args meth c cc own nL ret E) {y : MethodName} {cy : ByteArray} {mL n idx d : Nat} {rt : Option FieldType} {As rest : List Value} {r : Option Value} {τ : Sg} (hC : CT l y cy mL rt d E σ As r τ) (hmi : MS y cy mL rt n) (hlk : Cond.methodLink own idx y ∈ gw) (hn : As.length = n) (hst : st = As.reverse ++ rest) (hrs : (rest.map fun v => v.category).sum ≤ 8) (hR : d + 1 ≤ R.frames ∧ 8 + (mL + 11) + 48 * d ≤ R.locals) (hf : nc ≤ R.cells ∧ ns ≤ R.slots) (hd : decode cc pc = .ok (.invokestatic idx, 3)) (k : WA p l e R s m args below meth c nL E nc ns Q (pc + 3) L (r.toList ++ rest) τ) : WA p l e R s m args below meth c nL E nc ns Q (pc) L (st) σ := by
  intro H locs ls hP hD hS hl
  subst hst
  obtain ⟨hi1, hi2, hi3, hi4⟩ := hmi
  have ht := cx.2.2.2.2.1
  have hws : ∀ w ∈ va_wsS own idx y (Cond.code y cy mL rt :: gw), w ∈ gw := by
    intro w hw
    unfold va_wsS at hw
    rcases List.mem_append.mp hw with h | h
    · simp only [List.mem_cons, List.not_mem_nil, or_false] at h
      rcases h with rfl | rfl | rfl
      · exact hlk
      · exact hi1
      · exact hi2
    · rcases List.mem_cons.mp h with rfl | h
      · exact hi3
      · exact h
  refine wa_run cx (va_runS (As := As) (rest := rest) ⟨cx.1, cx.2.1, cx.2.2.1, cx.2.2.2.1, ht⟩ (hC H.size) (va_cwS n ht (gi_of hws) rfl rfl rfl hi4 hR) ⟨Pcq_blind, fun U hU hW => ⟨rfl, by rw [hU], by rw [hU]; exact hP, va_K.moved hW.alike cx.2.2.2.2.2.1, hD.weaken (fun _ _ _ _ => trivial), cx.2.2.2.2.2.2.2.2.1.move hS hU hW, cx.2.2.2.2.2.2.2.2.2⟩⟩ rfl hn hl.1 rfl (lv_room hrs) hd hf) hS (AE_up hS.1) (fun H1 locs1 hP1 hS1 => k H1 locs1 ls hP1 (wl_D hD) hS1 hl)
theorem wa_callVi (cx : CX p s m args meth c cc own nL ret E) {y : MethodName} {cy : ByteArray} {mL n idx b ci d : Nat} {rt : Option FieldType} {fl : List Nat} {rest : List Value} {x : Int32} {τ : Sg} (As : List Value) (hC : CT l y cy mL rt d E σ (.ref (eA E b) :: As) (some (.int x)) τ) (hmi : MI y cy mL rt n) (hlk : Cond.methodLink own idx y ∈ gw) (hb : lkt b = (0, ci, fl)) (hci : (vwCl[ci]?).map (fun q => q.1) = some y.cls) (hbL : b ∈ eL E) (hn : As.length = n) (hst : st = As.reverse ++ .ref (eA E b) :: rest) (hrs : (rest.map fun v => v.category).sum ≤ 8) (hR : d + 1 ≤ R.frames ∧ 8 + (mL + 11) + 48 * d ≤ R.locals) (hf : nc ≤ R.cells ∧ ns ≤ R.slots) (hd : decode cc pc = .ok (.invokevirtual idx, 3)) (k : WA p l e R s m args below meth c nL E nc ns Q (pc + 3) L (.int x :: rest) τ) : WA p l e R s m args below meth c nL E nc ns Q (pc) L (st) σ := wa_callV0 cx hC hmi hlk hb hci hbL hn hst hrs hR hf hd k
theorem wa_callSi (cx : CX p s m args meth c cc own nL ret E) {y : MethodName} {cy : ByteArray} {mL n idx d : Nat} {rt : Option FieldType} {rest : List Value} {x : Int32} {τ : Sg} (As : List Value) (hC : CT l y cy mL rt d E σ As (some (.int x)) τ) (hmi : MS y cy mL rt n) (hlk : Cond.methodLink own idx y ∈ gw) (hn : As.length = n) (hst : st = As.reverse ++ rest) (hrs : (rest.map fun v => v.category).sum ≤ 8) (hR : d + 1 ≤ R.frames ∧ 8 + (mL + 11) + 48 * d ≤ R.locals) (hf : nc ≤ R.cells ∧ ns ≤ R.slots) (hd : decode cc pc = .ok (.invokestatic idx, 3)) (k : WA p l e R s m args below meth c nL E nc ns Q (pc + 3) L (.int x :: rest) τ) : WA p l e R s m args below meth c nL E nc ns Q (pc) L (st) σ := wa_callS0 cx hC hmi hlk hn hst hrs hR hf hd k
theorem wa_callVl (cx : CX p s m args meth c cc own nL ret E) {y : MethodName} {cy : ByteArray} {mL n idx b ci d : Nat} {rt : Option FieldType} {fl : List Nat} {rest : List Value} {x : Int64} {τ : Sg} (As : List Value) (hC : CT l y cy mL rt d E σ (.ref (eA E b) :: As) (some (.long x)) τ) (hmi : MI y cy mL rt n) (hlk : Cond.methodLink own idx y ∈ gw) (hb : lkt b = (0, ci, fl)) (hci : (vwCl[ci]?).map (fun q => q.1) = some y.cls) (hbL : b ∈ eL E) (hn : As.length = n) (hst : st = As.reverse ++ .ref (eA E b) :: rest) (hrs : (rest.map fun v => v.category).sum ≤ 8) (hR : d + 1 ≤ R.frames ∧ 8 + (mL + 11) + 48 * d ≤ R.locals) (hf : nc ≤ R.cells ∧ ns ≤ R.slots) (hd : decode cc pc = .ok (.invokevirtual idx, 3)) (k : WA p l e R s m args below meth c nL E nc ns Q (pc + 3) L (.long x :: rest) τ) : WA p l e R s m args below meth c nL E nc ns Q (pc) L (st) σ := wa_callV0 cx hC hmi hlk hb hci hbL hn hst hrs hR hf hd k
theorem wa_callSl (cx : CX p s m args meth c cc own nL ret E) {y : MethodName} {cy : ByteArray} {mL n idx d : Nat} {rt : Option FieldType} {rest : List Value} {x : Int64} {τ : Sg} (As : List Value) (hC : CT l y cy mL rt d E σ As (some (.long x)) τ) (hmi : MS y cy mL rt n) (hlk : Cond.methodLink own idx y ∈ gw) (hn : As.length = n) (hst : st = As.reverse ++ rest) (hrs : (rest.map fun v => v.category).sum ≤ 8) (hR : d + 1 ≤ R.frames ∧ 8 + (mL + 11) + 48 * d ≤ R.locals) (hf : nc ≤ R.cells ∧ ns ≤ R.slots) (hd : decode cc pc = .ok (.invokestatic idx, 3)) (k : WA p l e R s m args below meth c nL E nc ns Q (pc + 3) L (.long x :: rest) τ) : WA p l e R s m args below meth c nL E nc ns Q (pc) L (st) σ := wa_callS0 cx hC hmi hlk hn hst hrs hR hf hd k
theorem wa_callVv (cx : CX p s m args meth c cc own nL ret E) {y : MethodName} {cy : ByteArray} {mL n idx b ci d : Nat} {rt : Option FieldType} {fl : List Nat} {rest : List Value} {τ : Sg} (As : List Value) (hC : CT l y cy mL rt d E σ (.ref (eA E b) :: As) (none) τ) (hmi : MI y cy mL rt n) (hlk : Cond.methodLink own idx y ∈ gw) (hb : lkt b = (0, ci, fl)) (hci : (vwCl[ci]?).map (fun q => q.1) = some y.cls) (hbL : b ∈ eL E) (hn : As.length = n) (hst : st = As.reverse ++ .ref (eA E b) :: rest) (hrs : (rest.map fun v => v.category).sum ≤ 8) (hR : d + 1 ≤ R.frames ∧ 8 + (mL + 11) + 48 * d ≤ R.locals) (hf : nc ≤ R.cells ∧ ns ≤ R.slots) (hd : decode cc pc = .ok (.invokevirtual idx, 3)) (k : WA p l e R s m args below meth c nL E nc ns Q (pc + 3) L (rest) τ) : WA p l e R s m args below meth c nL E nc ns Q (pc) L (st) σ := wa_callV0 cx hC hmi hlk hb hci hbL hn hst hrs hR hf hd k
theorem wa_callSv (cx : CX p s m args meth c cc own nL ret E) {y : MethodName} {cy : ByteArray} {mL n idx d : Nat} {rt : Option FieldType} {rest : List Value} {τ : Sg} (As : List Value) (hC : CT l y cy mL rt d E σ As (none) τ) (hmi : MS y cy mL rt n) (hlk : Cond.methodLink own idx y ∈ gw) (hn : As.length = n) (hst : st = As.reverse ++ rest) (hrs : (rest.map fun v => v.category).sum ≤ 8) (hR : d + 1 ≤ R.frames ∧ 8 + (mL + 11) + 48 * d ≤ R.locals) (hf : nc ≤ R.cells ∧ ns ≤ R.slots) (hd : decode cc pc = .ok (.invokestatic idx, 3)) (k : WA p l e R s m args below meth c nL E nc ns Q (pc + 3) L (rest) τ) : WA p l e R s m args below meth c nL E nc ns Q (pc) L (st) σ := wa_callS0 cx hC hmi hlk hn hst hrs hR hf hd k
theorem wa_iret (cx : CX p s m args meth c cc own nL (some .int) E) {v : Int32} (hd : decode cc pc = .ok (.ireturn, 1)) : WA p l e R s m args below meth c nL E nc ns (MQ below (Qcq E s.heap.size (some (.int v)) σ) args s nc ns (AE E s.heap.size)) pc L [.int v] σ := fun H locs ls hP hD hS hl => W.iret cx.1 cx.2.1 cx.2.2.2.2.2.2.1 (fun t ht hW => ⟨rfl, by rw [ht]; exact hP, hS.F ht⟩) hS.2.2 hd cx.2.2.2.2.2.2.2.1
theorem wa_zret (cx : CX p s m args meth c cc own nL (some .boolean) E) {v : Int32} (hz : isz v = true) (hd : decode cc pc = .ok (.ireturn, 1)) : WA p l e R s m args below meth c nL E nc ns (MQ below (Qcq E s.heap.size (some (.int v)) σ) args s nc ns (AE E s.heap.size)) pc L [.int v] σ := fun H locs ls hP hD hS hl => W.zret cx.1 cx.2.1 cx.2.2.2.2.2.2.1 (isz_nar hz).1 (fun t ht hW => ⟨rfl, by rw [ht]; exact hP, hS.F ht⟩) hS.2.2 hd cx.2.2.2.2.2.2.2.1
theorem wa_lret (cx : CX p s m args meth c cc own nL (some .long) E) {v : Int64} (hd : decode cc pc = .ok (.lreturn, 1)) : WA p l e R s m args below meth c nL E nc ns (MQ below (Qcq E s.heap.size (some (.long v)) σ) args s nc ns (AE E s.heap.size)) pc L [.long v] σ := fun H locs ls hP hD hS hl => W.lret cx.1 cx.2.1 cx.2.2.2.2.2.2.1 (fun t ht hW => ⟨rfl, by rw [ht]; exact hP, hS.F ht⟩) hS.2.2 hd cx.2.2.2.2.2.2.2.1
theorem wa_vret (cx : CX p s m args meth c cc own nL (none) E) (hd : decode cc pc = .ok (.return_, 1)) : WA p l e R s m args below meth c nL E nc ns (MQ below (Qcq E s.heap.size (none) σ) args s nc ns (AE E s.heap.size)) pc L [] σ := fun H locs ls hP hD hS hl => W.vret cx.1 cx.2.1 cx.2.2.2.2.2.2.1 (fun t ht hW => ⟨rfl, by rw [ht]; exact hP, hS.F ht⟩) hS.2.2 hd cx.2.2.2.2.2.2.2.1
end WArows
theorem mi_X10_row : MI yX10_row cX10_row 4 (some .int) 3 := ⟨tw_346, tw_347, tw_58, tw_348, by decide +kernel, by decide +kernel, by decide +kernel⟩
theorem mi_X7_isNumber : MI yX7_isNumber cX7_isNumber 2 (some .boolean) 1 := ⟨tw_350, tw_351, tw_59, tw_352, by decide +kernel, by decide +kernel, by decide +kernel⟩
theorem mi_X10_found : MI yX10_found cX10_found 2 (some .int) 1 := ⟨tw_356, tw_0, tw_58, tw_357, by decide +kernel, by decide +kernel, by decide +kernel⟩
theorem mi_X7_make : MI yX7_make cX7_make 5 none 3 := ⟨tw_360, tw_361, tw_59, tw_362, by decide +kernel, by decide +kernel, by decide +kernel⟩
theorem mi_X10_foundNothing : MI yX10_foundNothing cX10_foundNothing 2 (some .int) 1 := ⟨tw_365, tw_1, tw_58, tw_366, by decide +kernel, by decide +kernel, by decide +kernel⟩
theorem mi_X10_set : MI yX10_set cX10_set 4 (some .int) 3 := ⟨tw_368, tw_369, tw_58, tw_370, by decide +kernel, by decide +kernel, by decide +kernel⟩
theorem mi_X7_isMissing : MI yX7_isMissing cX7_isMissing 2 (some .boolean) 1 := ⟨tw_372, tw_373, tw_59, tw_374, by decide +kernel, by decide +kernel, by decide +kernel⟩
theorem mi_X7_hasPlaces : MI yX7_hasPlaces cX7_hasPlaces 4 (some .boolean) 3 := ⟨tw_376, tw_377, tw_59, tw_378, by decide +kernel, by decide +kernel, by decide +kernel⟩
theorem mi_X7_put : MI yX7_put cX7_put 5 (some .int) 3 := ⟨tw_380, tw_381, tw_59, tw_382, by decide +kernel, by decide +kernel, by decide +kernel⟩
theorem mi_X10_copy : MI yX10_copy cX10_copy 6 (some .int) 5 := ⟨tw_384, tw_385, tw_58, tw_386, by decide +kernel, by decide +kernel, by decide +kernel⟩
theorem mi_X7_laneOf : MI yX7_laneOf cX7_laneOf 2 (some .int) 1 := ⟨tw_388, tw_389, tw_59, tw_390, by decide +kernel, by decide +kernel, by decide +kernel⟩
theorem mi_X7_move : MI yX7_move cX7_move 6 none 5 := ⟨tw_392, tw_393, tw_59, tw_394, by decide +kernel, by decide +kernel, by decide +kernel⟩
theorem mi_X10_drop : MI yX10_drop cX10_drop 3 (some .int) 1 := ⟨tw_399, tw_400, tw_58, tw_401, by decide +kernel, by decide +kernel, by decide +kernel⟩
theorem mi_X7_sizeOf : MI yX7_sizeOf cX7_sizeOf 2 (some .int) 1 := ⟨tw_403, tw_404, tw_59, tw_405, by decide +kernel, by decide +kernel, by decide +kernel⟩
theorem mi_X7_remove : MI yX7_remove cX7_remove 2 none 1 := ⟨tw_407, tw_408, tw_59, tw_409, by decide +kernel, by decide +kernel, by decide +kernel⟩
theorem mi_X10_feed : MI yX10_feed cX10_feed 5 (some .int) 2 := ⟨tw_411, tw_412, tw_58, tw_413, by decide +kernel, by decide +kernel, by decide +kernel⟩
theorem mi_X8_hasRoom : MI yX8_hasRoom cX8_hasRoom 2 (some .boolean) 1 := ⟨tw_415, tw_416, tw_61, tw_417, by decide +kernel, by decide +kernel, by decide +kernel⟩
theorem mi_X8_add : MI yX8_add cX8_add 2 none 1 := ⟨tw_420, tw_421, tw_61, tw_422, by decide +kernel, by decide +kernel, by decide +kernel⟩
theorem mi_X10_walk : MI yX10_walk cX10_walk 1 (some .int) 0 := ⟨tw_424, tw_425, tw_58, tw_426, by decide +kernel, by decide +kernel, by decide +kernel⟩
theorem mi_X6_readInto : MI yX6_readInto cX6_readInto 3 none 1 := ⟨tw_428, tw_429, tw_60, tw_430, by decide +kernel, by decide +kernel, by decide +kernel⟩
theorem mi_X9_begin : MI yX9_begin cX9_begin 2 none 0 := ⟨tw_432, tw_433, tw_62, tw_434, by decide +kernel, by decide +kernel, by decide +kernel⟩
theorem mi_X8_rewind : MI yX8_rewind cX8_rewind 1 none 0 := ⟨tw_436, tw_437, tw_61, tw_438, by decide +kernel, by decide +kernel, by decide +kernel⟩
theorem mi_X8_next : MI yX8_next cX8_next 1 none 0 := ⟨tw_440, tw_441, tw_61, tw_442, by decide +kernel, by decide +kernel, by decide +kernel⟩
theorem ms_X8_isBlank : MS yX8_isBlank cX8_isBlank 1 (some .boolean) 1 := ⟨tw_444, tw_61, tw_445, by decide +kernel, by decide +kernel, by decide +kernel⟩
theorem ms_X8_isLetter : MS yX8_isLetter cX8_isLetter 1 (some .boolean) 1 := ⟨tw_447, tw_61, tw_448, by decide +kernel, by decide +kernel, by decide +kernel⟩
theorem mi_X8_takeName : MI yX8_takeName cX8_takeName 1 none 0 := ⟨tw_451, tw_2, tw_61, tw_452, by decide +kernel, by decide +kernel, by decide +kernel⟩
theorem ms_X8_isFigure : MS yX8_isFigure cX8_isFigure 1 (some .boolean) 1 := ⟨tw_454, tw_61, tw_455, by decide +kernel, by decide +kernel, by decide +kernel⟩
theorem mi_X8_takeNumber : MI yX8_takeNumber cX8_takeNumber 1 none 0 := ⟨tw_458, tw_3, tw_61, tw_459, by decide +kernel, by decide +kernel, by decide +kernel⟩
theorem mi_X6_readLaw : MI yX6_readLaw cX6_readLaw 2 none 1 := ⟨tw_462, tw_4, tw_60, tw_463, by decide +kernel, by decide +kernel, by decide +kernel⟩
theorem mi_X8_isWord : MI yX8_isWord cX8_isWord 3 (some .boolean) 1 := ⟨tw_466, tw_467, tw_61, tw_468, by decide +kernel, by decide +kernel, by decide +kernel⟩
theorem mi_X6_takeNumber : MI yX6_takeNumber cX6_takeNumber 4 (some .int) 2 := ⟨tw_520, tw_5, tw_60, tw_521, by decide +kernel, by decide +kernel, by decide +kernel⟩
theorem mi_X6_takeSign : MI yX6_takeSign cX6_takeSign 1 none 0 := ⟨tw_524, tw_6, tw_60, tw_525, by decide +kernel, by decide +kernel, by decide +kernel⟩
theorem mi_X6_readSpeaker : MI yX6_readSpeaker cX6_readSpeaker 2 none 1 := ⟨tw_529, tw_7, tw_60, tw_530, by decide +kernel, by decide +kernel, by decide +kernel⟩
theorem mi_X6_readYarn : MI yX6_readYarn cX6_readYarn 2 none 1 := ⟨tw_534, tw_8, tw_60, tw_535, by decide +kernel, by decide +kernel, by decide +kernel⟩
theorem mi_X6_takeSort : MI yX6_takeSort cX6_takeSort 2 (some .int) 0 := ⟨tw_538, tw_9, tw_60, tw_539, by decide +kernel, by decide +kernel, by decide +kernel⟩
theorem mi_X9_becomeAs : MI yX9_becomeAs cX9_becomeAs 2 none 1 := ⟨tw_547, tw_548, tw_62, tw_549, by decide +kernel, by decide +kernel, by decide +kernel⟩
theorem mi_X0_forgetAll : MI yX0_forgetAll cX0_forgetAll 1 none 0 := ⟨tw_552, tw_553, tw_63, tw_554, by decide +kernel, by decide +kernel, by decide +kernel⟩
theorem mi_X10_fault : MI yX10_fault cX10_fault 1 (some .int) 0 := ⟨tw_556, tw_557, tw_58, tw_558, by decide +kernel, by decide +kernel, by decide +kernel⟩
theorem mi_X10_lay : MI yX10_lay cX10_lay 4 (some .int) 2 := ⟨tw_560, tw_561, tw_58, tw_562, by decide +kernel, by decide +kernel, by decide +kernel⟩
theorem mi_X9_hasYarn : MI yX9_hasYarn cX9_hasYarn 2 (some .boolean) 1 := ⟨tw_564, tw_565, tw_62, tw_566, by decide +kernel, by decide +kernel, by decide +kernel⟩
theorem mi_X0_keep : MI yX0_keep cX0_keep 2 none 1 := ⟨tw_568, tw_569, tw_63, tw_570, by decide +kernel, by decide +kernel, by decide +kernel⟩
theorem mi_X10_pitch : MI yX10_pitch cX10_pitch 2 (some .int) 1 := ⟨tw_576, tw_577, tw_58, tw_578, by decide +kernel, by decide +kernel, by decide +kernel⟩
theorem mi_X9_strength : MI yX9_strength cX9_strength 2 (some .int) 1 := ⟨tw_581, tw_582, tw_62, tw_583, by decide +kernel, by decide +kernel, by decide +kernel⟩
theorem mi_X9_strengthIf : MI yX9_strengthIf cX9_strengthIf 4 (some .int) 2 := ⟨tw_585, tw_586, tw_62, tw_587, by decide +kernel, by decide +kernel, by decide +kernel⟩
theorem mi_X10_vow : MI yX10_vow cX10_vow 4 (some .int) 2 := ⟨tw_592, tw_593, tw_58, tw_594, by decide +kernel, by decide +kernel, by decide +kernel⟩
theorem mi_X10_splice : MI yX10_splice cX10_splice 3 (some .int) 1 := ⟨tw_596, tw_597, tw_58, tw_598, by decide +kernel, by decide +kernel, by decide +kernel⟩
theorem mi_X10_pull : MI yX10_pull cX10_pull 4 (some .int) 2 := ⟨tw_600, tw_601, tw_58, tw_602, by decide +kernel, by decide +kernel, by decide +kernel⟩
theorem ms_X10_isLoad : MS yX10_isLoad cX10_isLoad 1 (some .boolean) 1 := ⟨tw_604, tw_58, tw_605, by decide +kernel, by decide +kernel, by decide +kernel⟩
theorem ms_X10_isSeed : MS yX10_isSeed cX10_isSeed 1 (some .boolean) 1 := ⟨tw_607, tw_58, tw_608, by decide +kernel, by decide +kernel, by decide +kernel⟩
theorem ms_X10_nextX : MS yX10_nextX cX10_nextX 1 (some .int) 1 := ⟨tw_611, tw_58, tw_612, by decide +kernel, by decide +kernel, by decide +kernel⟩
theorem mi_X9_ropeBears : MI yX9_ropeBears cX9_ropeBears 1 (some .int) 0 := ⟨tw_616, tw_617, tw_62, tw_618, by decide +kernel, by decide +kernel, by decide +kernel⟩
theorem mi_X9_ropeBearsWithout : MI yX9_ropeBearsWithout cX9_ropeBearsWithout 4 (some .int) 1 := ⟨tw_620, tw_621, tw_62, tw_622, by decide +kernel, by decide +kernel, by decide +kernel⟩
theorem mi_X9_strandBearsWithout : MI yX9_strandBearsWithout cX9_strandBearsWithout 5 (some .int) 2 := ⟨tw_625, tw_10, tw_62, tw_626, by decide +kernel, by decide +kernel, by decide +kernel⟩
theorem mi_X9_weakestStrand : MI yX9_weakestStrand cX9_weakestStrand 3 (some .int) 0 := ⟨tw_630, tw_631, tw_62, tw_632, by decide +kernel, by decide +kernel, by decide +kernel⟩
theorem mi_X9_strandBears : MI yX9_strandBears cX9_strandBears 2 (some .int) 1 := ⟨tw_634, tw_635, tw_62, tw_636, by decide +kernel, by decide +kernel, by decide +kernel⟩
theorem mi_X9_part : MI yX9_part cX9_part 3 none 1 := ⟨tw_638, tw_639, tw_62, tw_640, by decide +kernel, by decide +kernel, by decide +kernel⟩
theorem mi_X9_wearLaid : MI yX9_wearLaid cX9_wearLaid 2 none 0 := ⟨tw_642, tw_643, tw_62, tw_644, by decide +kernel, by decide +kernel, by decide +kernel⟩
theorem mi_X9_isLaid : MI yX9_isLaid cX9_isLaid 2 (some .boolean) 1 := ⟨tw_646, tw_647, tw_62, tw_648, by decide +kernel, by decide +kernel, by decide +kernel⟩
theorem mi_X10_year : MI yX10_year cX10_year 6 (some .int) 1 := ⟨tw_651, tw_652, tw_58, tw_653, by decide +kernel, by decide +kernel, by decide +kernel⟩
theorem mi_X9_isDrawn : MI yX9_isDrawn cX9_isDrawn 2 (some .boolean) 1 := ⟨tw_655, tw_656, tw_62, tw_657, by decide +kernel, by decide +kernel, by decide +kernel⟩
theorem mi_X9_keptInTen : MI yX9_keptInTen cX9_keptInTen 2 (some .int) 1 := ⟨tw_659, tw_660, tw_62, tw_661, by decide +kernel, by decide +kernel, by decide +kernel⟩
theorem mi_X10_undo : MI yX10_undo cX10_undo 1 (some .int) 0 := ⟨tw_663, tw_664, tw_58, tw_665, by decide +kernel, by decide +kernel, by decide +kernel⟩
theorem mi_X0_takeBack : MI yX0_takeBack cX0_takeBack 2 none 1 := ⟨tw_667, tw_668, tw_63, tw_669, by decide +kernel, by decide +kernel, by decide +kernel⟩
theorem mi_X10_yarn : MI yX10_yarn cX10_yarn 3 (some .int) 2 := ⟨tw_671, tw_672, tw_58, tw_673, by decide +kernel, by decide +kernel, by decide +kernel⟩
theorem mi_X10_bears : MI yX10_bears cX10_bears 2 (some .int) 1 := ⟨tw_675, tw_676, tw_58, tw_677, by decide +kernel, by decide +kernel, by decide +kernel⟩
theorem mi_X10_best : MI yX10_best cX10_best 2 (some .int) 1 := ⟨tw_680, tw_681, tw_58, tw_682, by decide +kernel, by decide +kernel, by decide +kernel⟩
theorem mi_X2_search : MI yX2_search cX2_search 3 none 1 := ⟨tw_684, tw_685, tw_64, tw_686, by decide +kernel, by decide +kernel, by decide +kernel⟩
theorem mi_X2_layFrom : MI yX2_layFrom cX2_layFrom 4 none 2 := ⟨tw_690, tw_11, tw_64, tw_691, by decide +kernel, by decide +kernel, by decide +kernel⟩
theorem mi_X2_missing : MI yX2_missing cX2_missing 3 (some .int) 0 := ⟨tw_694, tw_12, tw_64, tw_695, by decide +kernel, by decide +kernel, by decide +kernel⟩
theorem mi_X10_cheapest : MI yX10_cheapest cX10_cheapest 4 (some .int) 2 := ⟨tw_700, tw_701, tw_58, tw_702, by decide +kernel, by decide +kernel, by decide +kernel⟩
theorem mi_X3_search : MI yX3_search cX3_search 8 (some .int) 2 := ⟨tw_704, tw_705, tw_65, tw_706, by decide +kernel, by decide +kernel, by decide +kernel⟩
theorem mi_X3_fillBest : MI yX3_fillBest cX3_fillBest 7 (some .int) 3 := ⟨tw_710, tw_13, tw_65, tw_711, by decide +kernel, by decide +kernel, by decide +kernel⟩
theorem mi_X9_priceOf : MI yX9_priceOf cX9_priceOf 4 (some .int) 1 := ⟨tw_716, tw_717, tw_62, tw_718, by decide +kernel, by decide +kernel, by decide +kernel⟩
theorem mi_X10_odds : MI yX10_odds cX10_odds 3 (some .int) 2 := ⟨tw_721, tw_722, tw_58, tw_723, by decide +kernel, by decide +kernel, by decide +kernel⟩
theorem mi_X5_reckon : MI yX5_reckon cX5_reckon 4 none 2 := ⟨tw_725, tw_726, tw_66, tw_727, by decide +kernel, by decide +kernel, by decide +kernel⟩
theorem mi_X5_yearsFrom : MI yX5_yearsFrom cX5_yearsFrom 7 (some .int) 2 := ⟨tw_730, tw_14, tw_66, tw_731, by decide +kernel, by decide +kernel, by decide +kernel⟩
theorem mi_X5_divideByTwo : MI yX5_divideByTwo cX5_divideByTwo 1 none 0 := ⟨tw_736, tw_15, tw_66, tw_737, by decide +kernel, by decide +kernel, by decide +kernel⟩
theorem mi_X5_divideByFive : MI yX5_divideByFive cX5_divideByFive 1 none 0 := ⟨tw_740, tw_16, tw_66, tw_741, by decide +kernel, by decide +kernel, by decide +kernel⟩
theorem mi_X10_risk : MI yX10_risk cX10_risk 4 (some .int) 3 := ⟨tw_743, tw_744, tw_58, tw_745, by decide +kernel, by decide +kernel, by decide +kernel⟩
theorem mi_X7_hasBelowZero : MI yX7_hasBelowZero cX7_hasBelowZero 5 (some .boolean) 3 := ⟨tw_747, tw_748, tw_59, tw_749, by decide +kernel, by decide +kernel, by decide +kernel⟩
theorem mi_X7_countUpTo : MI yX7_countUpTo cX7_countUpTo 6 (some .int) 4 := ⟨tw_751, tw_752, tw_59, tw_753, by decide +kernel, by decide +kernel, by decide +kernel⟩
theorem mi_X10_whose : MI yX10_whose cX10_whose 6 (some .int) 2 := ⟨tw_755, tw_756, tw_58, tw_757, by decide +kernel, by decide +kernel, by decide +kernel⟩
theorem mi_X10_geese : MI yX10_geese cX10_geese 3 (some .int) 1 := ⟨tw_761, tw_762, tw_58, tw_763, by decide +kernel, by decide +kernel, by decide +kernel⟩
theorem ms_J6_bitCount_0f7a4 : MS yJ6_bitCount_0f7a4 cJ6_bitCount_0f7a4 1 (some .int) 1 := ⟨tw_765, tw_75, tw_766, by decide +kernel, by decide +kernel, by decide +kernel⟩
theorem mi_X10_fathoms : MI yX10_fathoms cX10_fathoms 4 (some .int) 1 := ⟨tw_771, tw_772, tw_58, tw_773, by decide +kernel, by decide +kernel, by decide +kernel⟩
theorem mi_X10_image : MI yX10_image cX10_image 3 (some .int) 1 := ⟨tw_775, tw_776, tw_58, tw_777, by decide +kernel, by decide +kernel, by decide +kernel⟩
theorem mi_X10_restore : MI yX10_restore cX10_restore 3 (some .int) 1 := ⟨tw_779, tw_780, tw_58, tw_781, by decide +kernel, by decide +kernel, by decide +kernel⟩
theorem mi_X10_kind : MI yX10_kind cX10_kind 2 (some .int) 1 := ⟨tw_783, tw_784, tw_58, tw_785, by decide +kernel, by decide +kernel, by decide +kernel⟩
theorem mi_X10_as : MI yX10_as cX10_as 3 (some .int) 2 := ⟨tw_787, tw_788, tw_58, tw_789, by decide +kernel, by decide +kernel, by decide +kernel⟩
theorem ms_X4_isOne : MS yX4_isOne cX4_isOne 4 (some .boolean) 2 := ⟨tw_791, tw_76, tw_792, by decide +kernel, by decide +kernel, by decide +kernel⟩
theorem mi_X10_ask : MI yX10_ask cX10_ask 3 (some .int) 2 := ⟨tw_796, tw_797, tw_58, tw_798, by decide +kernel, by decide +kernel, by decide +kernel⟩
theorem mi_X1_answer : MI yX1_answer cX1_answer 5 (some .int) 3 := ⟨tw_800, tw_801, tw_67, tw_802, by decide +kernel, by decide +kernel, by decide +kernel⟩
theorem ms_X4_sizeBody : MS yX4_sizeBody cX4_sizeBody 1 (some .int) 1 := ⟨tw_804, tw_76, tw_805, by decide +kernel, by decide +kernel, by decide +kernel⟩
theorem ms_X4_nearest : MS yX4_nearest cX4_nearest 4 (some .int) 2 := ⟨tw_809, tw_76, tw_810, by decide +kernel, by decide +kernel, by decide +kernel⟩
theorem ms_X4_markBody : MS yX4_markBody cX4_markBody 1 (some .int) 1 := ⟨tw_812, tw_76, tw_813, by decide +kernel, by decide +kernel, by decide +kernel⟩
theorem mi_X1_give : MI yX1_give cX1_give 7 (some .int) 4 := ⟨tw_818, tw_17, tw_67, tw_819, by decide +kernel, by decide +kernel, by decide +kernel⟩
theorem mi_X1_leave : MI yX1_leave cX1_leave 2 none 1 := ⟨tw_822, tw_18, tw_67, tw_823, by decide +kernel, by decide +kernel, by decide +kernel⟩
theorem mi_X10_trace : MI yX10_trace cX10_trace 2 (some .int) 1 := ⟨tw_825, tw_826, tw_58, tw_827, by decide +kernel, by decide +kernel, by decide +kernel⟩
theorem mi_X10_count : MI yX10_count cX10_count 2 (some .int) 1 := ⟨tw_829, tw_830, tw_58, tw_831, by decide +kernel, by decide +kernel, by decide +kernel⟩
theorem mi_X7_howMany : MI yX7_howMany cX7_howMany 3 (some .int) 0 := ⟨tw_833, tw_834, tw_59, tw_835, by decide +kernel, by decide +kernel, by decide +kernel⟩
theorem mi_X9_laidYarns : MI yX9_laidYarns cX9_laidYarns 3 (some .int) 0 := ⟨tw_838, tw_839, tw_62, tw_840, by decide +kernel, by decide +kernel, by decide +kernel⟩
theorem mi_X9_brokenVows : MI yX9_brokenVows cX9_brokenVows 3 (some .int) 0 := ⟨tw_842, tw_843, tw_62, tw_844, by decide +kernel, by decide +kernel, by decide +kernel⟩
theorem mi_X10_status : MI yX10_status cX10_status 1 (some .int) 0 := ⟨tw_846, tw_847, tw_58, tw_848, by decide +kernel, by decide +kernel, by decide +kernel⟩
theorem mi_X11_row : MI yX11_row cX11_row 5 (some .int) 3 := ⟨tw_945, tw_946, tw_68, tw_947, by decide +kernel, by decide +kernel, by decide +kernel⟩
theorem ms_X11_isRow : MS yX11_isRow cX11_isRow 1 (some .boolean) 1 := ⟨tw_949, tw_68, tw_950, by decide +kernel, by decide +kernel, by decide +kernel⟩
theorem ms_X11_in : MS yX11_in cX11_in 6 (some .boolean) 3 := ⟨tw_953, tw_68, tw_954, by decide +kernel, by decide +kernel, by decide +kernel⟩
theorem mi_X11_finding : MI yX11_finding cX11_finding 2 (some .int) 1 := ⟨tw_959, tw_19, tw_68, tw_960, by decide +kernel, by decide +kernel, by decide +kernel⟩
theorem mi_X11_set : MI yX11_set cX11_set 4 (some .int) 3 := ⟨tw_963, tw_964, tw_68, tw_965, by decide +kernel, by decide +kernel, by decide +kernel⟩
theorem mi_X11_copy : MI yX11_copy cX11_copy 9 (some .int) 5 := ⟨tw_967, tw_968, tw_68, tw_969, by decide +kernel, by decide +kernel, by decide +kernel⟩
theorem mi_X11_drop : MI yX11_drop cX11_drop 2 (some .int) 1 := ⟨tw_971, tw_972, tw_68, tw_973, by decide +kernel, by decide +kernel, by decide +kernel⟩
theorem mi_X11_feed : MI yX11_feed cX11_feed 5 (some .int) 2 := ⟨tw_975, tw_976, tw_68, tw_977, by decide +kernel, by decide +kernel, by decide +kernel⟩
theorem mi_X11_walk : MI yX11_walk cX11_walk 2 (some .int) 0 := ⟨tw_982, tw_983, tw_68, tw_984, by decide +kernel, by decide +kernel, by decide +kernel⟩
theorem mi_X11_begin : MI yX11_begin cX11_begin 1 none 0 := ⟨tw_987, tw_20, tw_68, tw_988, by decide +kernel, by decide +kernel, by decide +kernel⟩
theorem mi_X11_next : MI yX11_next cX11_next 2 none 0 := ⟨tw_991, tw_21, tw_68, tw_992, by decide +kernel, by decide +kernel, by decide +kernel⟩
theorem mi_X11_byteAt : MI yX11_byteAt cX11_byteAt 2 (some .int) 1 := ⟨tw_995, tw_22, tw_68, tw_996, by decide +kernel, by decide +kernel, by decide +kernel⟩
theorem ms_X11_isLetter : MS yX11_isLetter cX11_isLetter 1 (some .boolean) 1 := ⟨tw_999, tw_68, tw_1000, by decide +kernel, by decide +kernel, by decide +kernel⟩
theorem ms_X11_isFigure : MS yX11_isFigure cX11_isFigure 1 (some .boolean) 1 := ⟨tw_1002, tw_68, tw_1003, by decide +kernel, by decide +kernel, by decide +kernel⟩
theorem mi_X11_name : MI yX11_name cX11_name 4 (some .long) 0 := ⟨tw_1006, tw_23, tw_68, tw_1007, by decide +kernel, by decide +kernel, by decide +kernel⟩
theorem mi_X11_must : MI yX11_must cX11_must 2 none 1 := ⟨tw_1011, tw_24, tw_68, tw_1012, by decide +kernel, by decide +kernel, by decide +kernel⟩
theorem mi_X11_bad : MI yX11_bad cX11_bad 2 none 1 := ⟨tw_1015, tw_25, tw_68, tw_1016, by decide +kernel, by decide +kernel, by decide +kernel⟩
theorem mi_X11_number : MI yX11_number cX11_number 4 (some .int) 2 := ⟨tw_1019, tw_26, tw_68, tw_1020, by decide +kernel, by decide +kernel, by decide +kernel⟩
theorem mi_X11_figures : MI yX11_figures cX11_figures 3 (some .int) 0 := ⟨tw_1023, tw_27, tw_68, tw_1024, by decide +kernel, by decide +kernel, by decide +kernel⟩
theorem mi_X11_mustEnd : MI yX11_mustEnd cX11_mustEnd 1 none 0 := ⟨tw_1027, tw_28, tw_68, tw_1028, by decide +kernel, by decide +kernel, by decide +kernel⟩
theorem mi_X11_readSpeaker : MI yX11_readSpeaker cX11_readSpeaker 3 none 0 := ⟨tw_1032, tw_29, tw_68, tw_1033, by decide +kernel, by decide +kernel, by decide +kernel⟩
theorem mi_X11_begins : MI yX11_begins cX11_begins 3 none 2 := ⟨tw_1036, tw_30, tw_68, tw_1037, by decide +kernel, by decide +kernel, by decide +kernel⟩
theorem mi_X11_readYarn : MI yX11_readYarn cX11_readYarn 5 none 0 := ⟨tw_1041, tw_31, tw_68, tw_1042, by decide +kernel, by decide +kernel, by decide +kernel⟩
theorem ms_X11_kindBy : MS yX11_kindBy cX11_kindBy 2 (some .int) 1 := ⟨tw_1044, tw_68, tw_1045, by decide +kernel, by decide +kernel, by decide +kernel⟩
theorem mi_X11_fault : MI yX11_fault cX11_fault 1 (some .int) 0 := ⟨tw_1053, tw_1054, tw_68, tw_1055, by decide +kernel, by decide +kernel, by decide +kernel⟩
theorem mi_X11_lay : MI yX11_lay cX11_lay 4 (some .int) 2 := ⟨tw_1057, tw_1058, tw_68, tw_1059, by decide +kernel, by decide +kernel, by decide +kernel⟩
theorem mi_X11_isYarn : MI yX11_isYarn cX11_isYarn 2 (some .boolean) 1 := ⟨tw_1062, tw_32, tw_68, tw_1063, by decide +kernel, by decide +kernel, by decide +kernel⟩
theorem mi_X11_keep : MI yX11_keep cX11_keep 2 none 0 := ⟨tw_1067, tw_33, tw_68, tw_1068, by decide +kernel, by decide +kernel, by decide +kernel⟩
theorem mi_X11_of : MI yX11_of cX11_of 3 (some .int) 2 := ⟨tw_1071, tw_34, tw_68, tw_1072, by decide +kernel, by decide +kernel, by decide +kernel⟩
theorem mi_X11_becomes : MI yX11_becomes cX11_becomes 4 none 3 := ⟨tw_1075, tw_35, tw_68, tw_1076, by decide +kernel, by decide +kernel, by decide +kernel⟩
theorem mi_X11_pitch : MI yX11_pitch cX11_pitch 2 (some .int) 1 := ⟨tw_1078, tw_1079, tw_68, tw_1080, by decide +kernel, by decide +kernel, by decide +kernel⟩
theorem mi_X11_strength : MI yX11_strength cX11_strength 2 (some .int) 1 := ⟨tw_1084, tw_36, tw_68, tw_1085, by decide +kernel, by decide +kernel, by decide +kernel⟩
theorem mi_X11_strengthBy : MI yX11_strengthBy cX11_strengthBy 5 (some .int) 2 := ⟨tw_1088, tw_37, tw_68, tw_1089, by decide +kernel, by decide +kernel, by decide +kernel⟩
theorem mi_X11_priceOf : MI yX11_priceOf cX11_priceOf 2 (some .int) 1 := ⟨tw_1092, tw_38, tw_68, tw_1093, by decide +kernel, by decide +kernel, by decide +kernel⟩
theorem mi_X11_vow : MI yX11_vow cX11_vow 4 (some .int) 2 := ⟨tw_1095, tw_1096, tw_68, tw_1097, by decide +kernel, by decide +kernel, by decide +kernel⟩
theorem mi_X11_splice : MI yX11_splice cX11_splice 3 (some .int) 1 := ⟨tw_1099, tw_1100, tw_68, tw_1101, by decide +kernel, by decide +kernel, by decide +kernel⟩
theorem mi_X11_pull : MI yX11_pull cX11_pull 8 (some .int) 2 := ⟨tw_1103, tw_1104, tw_68, tw_1105, by decide +kernel, by decide +kernel, by decide +kernel⟩
theorem ms_X11_isLoad : MS yX11_isLoad cX11_isLoad 1 (some .boolean) 1 := ⟨tw_1107, tw_68, tw_1108, by decide +kernel, by decide +kernel, by decide +kernel⟩
theorem ms_X11_isSeed : MS yX11_isSeed cX11_isSeed 1 (some .boolean) 1 := ⟨tw_1111, tw_68, tw_1112, by decide +kernel, by decide +kernel, by decide +kernel⟩
theorem mi_X11_draw : MI yX11_draw cX11_draw 2 (some .int) 1 := ⟨tw_1116, tw_39, tw_68, tw_1117, by decide +kernel, by decide +kernel, by decide +kernel⟩
theorem mi_X11_layStrands : MI yX11_layStrands cX11_layStrands 2 none 0 := ⟨tw_1122, tw_40, tw_68, tw_1123, by decide +kernel, by decide +kernel, by decide +kernel⟩
theorem mi_X11_noStrands : MI yX11_noStrands cX11_noStrands 2 none 0 := ⟨tw_1126, tw_41, tw_68, tw_1127, by decide +kernel, by decide +kernel, by decide +kernel⟩
theorem mi_X11_weakest : MI yX11_weakest cX11_weakest 3 (some .int) 0 := ⟨tw_1130, tw_42, tw_68, tw_1131, by decide +kernel, by decide +kernel, by decide +kernel⟩
theorem mi_X11_ropeBears : MI yX11_ropeBears cX11_ropeBears 1 (some .int) 0 := ⟨tw_1134, tw_43, tw_68, tw_1135, by decide +kernel, by decide +kernel, by decide +kernel⟩
theorem mi_X11_year : MI yX11_year cX11_year 6 (some .int) 1 := ⟨tw_1137, tw_1138, tw_68, tw_1139, by decide +kernel, by decide +kernel, by decide +kernel⟩
theorem mi_X11_truthOf : MI yX11_truthOf cX11_truthOf 2 (some .int) 1 := ⟨tw_1142, tw_44, tw_68, tw_1143, by decide +kernel, by decide +kernel, by decide +kernel⟩
theorem mi_X11_undo : MI yX11_undo cX11_undo 2 (some .int) 0 := ⟨tw_1145, tw_1146, tw_68, tw_1147, by decide +kernel, by decide +kernel, by decide +kernel⟩
theorem mi_X11_yarn : MI yX11_yarn cX11_yarn 3 (some .int) 2 := ⟨tw_1149, tw_1150, tw_68, tw_1151, by decide +kernel, by decide +kernel, by decide +kernel⟩
theorem mi_X11_bears : MI yX11_bears cX11_bears 2 (some .int) 1 := ⟨tw_1154, tw_1155, tw_68, tw_1156, by decide +kernel, by decide +kernel, by decide +kernel⟩
theorem mi_X11_best : MI yX11_best cX11_best 5 (some .int) 1 := ⟨tw_1159, tw_1160, tw_68, tw_1161, by decide +kernel, by decide +kernel, by decide +kernel⟩
theorem mi_X11_layBest : MI yX11_layBest cX11_layBest 5 (some .int) 0 := ⟨tw_1164, tw_45, tw_68, tw_1165, by decide +kernel, by decide +kernel, by decide +kernel⟩
theorem mi_X11_bearsBy : MI yX11_bearsBy cX11_bearsBy 4 (some .int) 1 := ⟨tw_1168, tw_46, tw_68, tw_1169, by decide +kernel, by decide +kernel, by decide +kernel⟩
theorem mi_X11_cheapest : MI yX11_cheapest cX11_cheapest 6 (some .int) 2 := ⟨tw_1171, tw_1172, tw_68, tw_1173, by decide +kernel, by decide +kernel, by decide +kernel⟩
theorem mi_X11_layTogether : MI yX11_layTogether cX11_layTogether 5 none 1 := ⟨tw_1176, tw_47, tw_68, tw_1177, by decide +kernel, by decide +kernel, by decide +kernel⟩
theorem mi_X11_costOf : MI yX11_costOf cX11_costOf 4 (some .int) 1 := ⟨tw_1180, tw_48, tw_68, tw_1181, by decide +kernel, by decide +kernel, by decide +kernel⟩
theorem mi_X11_odds : MI yX11_odds cX11_odds 9 (some .int) 2 := ⟨tw_1183, tw_1184, tw_68, tw_1185, by decide +kernel, by decide +kernel, by decide +kernel⟩
theorem mi_X11_tenthsOf : MI yX11_tenthsOf cX11_tenthsOf 2 (some .int) 1 := ⟨tw_1188, tw_49, tw_68, tw_1189, by decide +kernel, by decide +kernel, by decide +kernel⟩
theorem mi_X11_bearsIf : MI yX11_bearsIf cX11_bearsIf 4 (some .int) 1 := ⟨tw_1192, tw_50, tw_68, tw_1193, by decide +kernel, by decide +kernel, by decide +kernel⟩
theorem mi_X11_risk : MI yX11_risk cX11_risk 6 (some .int) 3 := ⟨tw_1195, tw_1196, tw_68, tw_1197, by decide +kernel, by decide +kernel, by decide +kernel⟩
theorem mi_X11_whose : MI yX11_whose cX11_whose 7 (some .int) 2 := ⟨tw_1200, tw_1201, tw_68, tw_1202, by decide +kernel, by decide +kernel, by decide +kernel⟩
theorem mi_X11_geese : MI yX11_geese cX11_geese 4 (some .int) 1 := ⟨tw_1204, tw_1205, tw_68, tw_1206, by decide +kernel, by decide +kernel, by decide +kernel⟩
theorem mi_X11_fathoms : MI yX11_fathoms cX11_fathoms 4 (some .int) 1 := ⟨tw_1208, tw_1209, tw_68, tw_1210, by decide +kernel, by decide +kernel, by decide +kernel⟩
theorem mi_X11_isSpeaker : MI yX11_isSpeaker cX11_isSpeaker 2 (some .boolean) 1 := ⟨tw_1213, tw_51, tw_68, tw_1214, by decide +kernel, by decide +kernel, by decide +kernel⟩
theorem mi_X11_image : MI yX11_image cX11_image 3 (some .int) 1 := ⟨tw_1216, tw_1217, tw_68, tw_1218, by decide +kernel, by decide +kernel, by decide +kernel⟩
theorem mi_X11_restore : MI yX11_restore cX11_restore 3 (some .int) 1 := ⟨tw_1220, tw_1221, tw_68, tw_1222, by decide +kernel, by decide +kernel, by decide +kernel⟩
theorem mi_X11_kind : MI yX11_kind cX11_kind 2 (some .int) 1 := ⟨tw_1224, tw_1225, tw_68, tw_1226, by decide +kernel, by decide +kernel, by decide +kernel⟩
theorem mi_X11_as : MI yX11_as cX11_as 3 (some .int) 2 := ⟨tw_1228, tw_1229, tw_68, tw_1230, by decide +kernel, by decide +kernel, by decide +kernel⟩
theorem ms_X11_isOf : MS yX11_isOf cX11_isOf 2 (some .boolean) 2 := ⟨tw_1233, tw_68, tw_1234, by decide +kernel, by decide +kernel, by decide +kernel⟩
theorem mi_X11_ask : MI yX11_ask cX11_ask 3 (some .int) 2 := ⟨tw_1236, tw_1237, tw_68, tw_1238, by decide +kernel, by decide +kernel, by decide +kernel⟩
theorem mi_X11_sizeOf : MI yX11_sizeOf cX11_sizeOf 4 (some .int) 1 := ⟨tw_1241, tw_52, tw_68, tw_1242, by decide +kernel, by decide +kernel, by decide +kernel⟩
theorem mi_X11_lieSize : MI yX11_lieSize cX11_lieSize 3 (some .int) 1 := ⟨tw_1245, tw_53, tw_68, tw_1246, by decide +kernel, by decide +kernel, by decide +kernel⟩
theorem mi_X11_began : MI yX11_began cX11_began 2 none 1 := ⟨tw_1249, tw_54, tw_68, tw_1250, by decide +kernel, by decide +kernel, by decide +kernel⟩
theorem mi_X11_plainSize : MI yX11_plainSize cX11_plainSize 2 (some .int) 1 := ⟨tw_1253, tw_55, tw_68, tw_1254, by decide +kernel, by decide +kernel, by decide +kernel⟩
theorem mi_X11_markOf : MI yX11_markOf cX11_markOf 4 (some .int) 1 := ⟨tw_1257, tw_56, tw_68, tw_1258, by decide +kernel, by decide +kernel, by decide +kernel⟩
theorem mi_X11_trace : MI yX11_trace cX11_trace 2 (some .int) 1 := ⟨tw_1260, tw_1261, tw_68, tw_1262, by decide +kernel, by decide +kernel, by decide +kernel⟩
theorem mi_X11_count : MI yX11_count cX11_count 4 (some .int) 1 := ⟨tw_1264, tw_1265, tw_68, tw_1266, by decide +kernel, by decide +kernel, by decide +kernel⟩
theorem mi_X11_status : MI yX11_status cX11_status 1 (some .int) 0 := ⟨tw_1268, tw_1269, tw_68, tw_1270, by decide +kernel, by decide +kernel, by decide +kernel⟩
theorem fl_X7_9 : FLk RX7 9 6 0 := ⟨RX7, TX7, 3, rfl, by decide, inX7, tw_91⟩
theorem fl_X7_13 : FLk RX7 13 6 1 := ⟨RX7, TX7, 3, rfl, by decide, inX7, tw_92⟩
theorem fl_X7_16 : FLk RX7 16 6 2 := ⟨RX7, TX7, 3, rfl, by decide, inX7, tw_93⟩
theorem fl_X8_9 : FLk RX8 9 7 0 := ⟨RX8, TX8, 6, rfl, by decide, inX8, tw_114⟩
theorem fl_X8_13 : FLk RX8 13 7 1 := ⟨RX8, TX8, 6, rfl, by decide, inX8, tw_115⟩
theorem fp_X8_13 : FPk RX8 13 7 1 .int := ⟨RX8, TX8, 6, tyX8, rfl, by decide, inX8, tw_115, tyX8_ok, nmX8, rfl, by decide +kernel⟩
theorem fl_X10_134 : FLk RX10 134 7 1 := ⟨RX8, TX8, 6, rfl, by decide, inX8, tw_116⟩
theorem fp_X10_134 : FPk RX10 134 7 1 .int := ⟨RX8, TX8, 6, tyX8, rfl, by decide, inX8, tw_116, tyX8_ok, nmX8, rfl, by decide +kernel⟩
theorem fl_X8_17 : FLk RX8 17 7 2 := ⟨RX8, TX8, 6, rfl, by decide, inX8, tw_117⟩
theorem fp_X8_17 : FPk RX8 17 7 2 .int := ⟨RX8, TX8, 6, tyX8, rfl, by decide, inX8, tw_117, tyX8_ok, nmX8, rfl, by decide +kernel⟩
theorem fl_X6_48 : FLk RX6 48 7 2 := ⟨RX8, TX8, 6, rfl, by decide, inX8, tw_118⟩
theorem fp_X6_48 : FPk RX6 48 7 2 .int := ⟨RX8, TX8, 6, tyX8, rfl, by decide, inX8, tw_118, tyX8_ok, nmX8, rfl, by decide +kernel⟩
theorem fl_X8_20 : FLk RX8 20 7 3 := ⟨RX8, TX8, 6, rfl, by decide, inX8, tw_119⟩
theorem fp_X8_20 : FPk RX8 20 7 3 .int := ⟨RX8, TX8, 6, tyX8, rfl, by decide, inX8, tw_119, tyX8_ok, nmX8, rfl, by decide +kernel⟩
theorem fl_X10_144 : FLk RX10 144 7 3 := ⟨RX8, TX8, 6, rfl, by decide, inX8, tw_120⟩
theorem fp_X10_144 : FPk RX10 144 7 3 .int := ⟨RX8, TX8, 6, tyX8, rfl, by decide, inX8, tw_120, tyX8_ok, nmX8, rfl, by decide +kernel⟩
theorem fl_X8_23 : FLk RX8 23 7 4 := ⟨RX8, TX8, 6, rfl, by decide, inX8, tw_121⟩
theorem fp_X8_23 : FPk RX8 23 7 4 .int := ⟨RX8, TX8, 6, tyX8, rfl, by decide, inX8, tw_121, tyX8_ok, nmX8, rfl, by decide +kernel⟩
theorem fl_X6_106 : FLk RX6 106 7 4 := ⟨RX8, TX8, 6, rfl, by decide, inX8, tw_122⟩
theorem fp_X6_106 : FPk RX6 106 7 4 .int := ⟨RX8, TX8, 6, tyX8, rfl, by decide, inX8, tw_122, tyX8_ok, nmX8, rfl, by decide +kernel⟩
theorem fl_X8_26 : FLk RX8 26 7 5 := ⟨RX8, TX8, 6, rfl, by decide, inX8, tw_123⟩
theorem fp_X8_26 : FPk RX8 26 7 5 .int := ⟨RX8, TX8, 6, tyX8, rfl, by decide, inX8, tw_123, tyX8_ok, nmX8, rfl, by decide +kernel⟩
theorem fl_X6_12 : FLk RX6 12 5 0 := ⟨RX6, TX6, 2, rfl, by decide, inX6, tw_138⟩
theorem fl_X10_120 : FLk RX10 120 5 0 := ⟨RX6, TX6, 2, rfl, by decide, inX6, tw_139⟩
theorem fl_X6_18 : FLk RX6 18 5 1 := ⟨RX6, TX6, 2, rfl, by decide, inX6, tw_140⟩
theorem fp_X6_18 : FPk RX6 18 5 1 .int := ⟨RX6, TX6, 2, tyX6, rfl, by decide, inX6, tw_140, tyX6_ok, nmX6, rfl, by decide +kernel⟩
theorem fl_X10_141 : FLk RX10 141 5 1 := ⟨RX6, TX6, 2, rfl, by decide, inX6, tw_141⟩
theorem fp_X10_141 : FPk RX10 141 5 1 .int := ⟨RX6, TX6, 2, tyX6, rfl, by decide, inX6, tw_141, tyX6_ok, nmX6, rfl, by decide +kernel⟩
theorem fl_X9_9 : FLk RX9 9 8 0 := ⟨RX9, TX9, 11, rfl, by decide, inX9, tw_153⟩
theorem fp_X9_9 : FPk RX9 9 8 0 .boolean := ⟨RX9, TX9, 11, tyX9, rfl, by decide, inX9, tw_153, tyX9_ok, nmX9, rfl, by decide +kernel⟩
theorem fl_X10_170 : FLk RX10 170 8 0 := ⟨RX9, TX9, 11, rfl, by decide, inX9, tw_154⟩
theorem fp_X10_170 : FPk RX10 170 8 0 .boolean := ⟨RX9, TX9, 11, tyX9, rfl, by decide, inX9, tw_154, tyX9_ok, nmX9, rfl, by decide +kernel⟩
theorem fl_X9_15 : FLk RX9 15 8 1 := ⟨RX9, TX9, 11, rfl, by decide, inX9, tw_155⟩
theorem fp_X9_15 : FPk RX9 15 8 1 .int := ⟨RX9, TX9, 11, tyX9, rfl, by decide, inX9, tw_155, tyX9_ok, nmX9, rfl, by decide +kernel⟩
theorem fl_X6_60 : FLk RX6 60 8 1 := ⟨RX9, TX9, 11, rfl, by decide, inX9, tw_156⟩
theorem fp_X6_60 : FPk RX6 60 8 1 .int := ⟨RX9, TX9, 11, tyX9, rfl, by decide, inX9, tw_156, tyX9_ok, nmX9, rfl, by decide +kernel⟩
theorem fl_X9_19 : FLk RX9 19 8 2 := ⟨RX9, TX9, 11, rfl, by decide, inX9, tw_157⟩
theorem fp_X9_19 : FPk RX9 19 8 2 .int := ⟨RX9, TX9, 11, tyX9, rfl, by decide, inX9, tw_157, tyX9_ok, nmX9, rfl, by decide +kernel⟩
theorem fl_X6_63 : FLk RX6 63 8 2 := ⟨RX9, TX9, 11, rfl, by decide, inX9, tw_158⟩
theorem fp_X6_63 : FPk RX6 63 8 2 .int := ⟨RX9, TX9, 11, tyX9, rfl, by decide, inX9, tw_158, tyX9_ok, nmX9, rfl, by decide +kernel⟩
theorem fl_X9_22 : FLk RX9 22 8 3 := ⟨RX9, TX9, 11, rfl, by decide, inX9, tw_159⟩
theorem fp_X9_22 : FPk RX9 22 8 3 .int := ⟨RX9, TX9, 11, tyX9, rfl, by decide, inX9, tw_159, tyX9_ok, nmX9, rfl, by decide +kernel⟩
theorem fl_X6_69 : FLk RX6 69 8 3 := ⟨RX9, TX9, 11, rfl, by decide, inX9, tw_160⟩
theorem fp_X6_69 : FPk RX6 69 8 3 .int := ⟨RX9, TX9, 11, tyX9, rfl, by decide, inX9, tw_160, tyX9_ok, nmX9, rfl, by decide +kernel⟩
theorem fl_X10_266 : FLk RX10 266 8 3 := ⟨RX9, TX9, 11, rfl, by decide, inX9, tw_161⟩
theorem fp_X10_266 : FPk RX10 266 8 3 .int := ⟨RX9, TX9, 11, tyX9, rfl, by decide, inX9, tw_161, tyX9_ok, nmX9, rfl, by decide +kernel⟩
theorem fl_X9_25 : FLk RX9 25 8 4 := ⟨RX9, TX9, 11, rfl, by decide, inX9, tw_162⟩
theorem fp_X9_25 : FPk RX9 25 8 4 .int := ⟨RX9, TX9, 11, tyX9, rfl, by decide, inX9, tw_162, tyX9_ok, nmX9, rfl, by decide +kernel⟩
theorem fl_X2_34 : FLk RX2 34 8 4 := ⟨RX9, TX9, 11, rfl, by decide, inX9, tw_163⟩
theorem fp_X2_34 : FPk RX2 34 8 4 .int := ⟨RX9, TX9, 11, tyX9, rfl, by decide, inX9, tw_163, tyX9_ok, nmX9, rfl, by decide +kernel⟩
theorem fl_X3_18 : FLk RX3 18 8 4 := ⟨RX9, TX9, 11, rfl, by decide, inX9, tw_164⟩
theorem fp_X3_18 : FPk RX3 18 8 4 .int := ⟨RX9, TX9, 11, tyX9, rfl, by decide, inX9, tw_164, tyX9_ok, nmX9, rfl, by decide +kernel⟩
theorem fl_X5_29 : FLk RX5 29 8 4 := ⟨RX9, TX9, 11, rfl, by decide, inX9, tw_165⟩
theorem fp_X5_29 : FPk RX5 29 8 4 .int := ⟨RX9, TX9, 11, tyX9, rfl, by decide, inX9, tw_165, tyX9_ok, nmX9, rfl, by decide +kernel⟩
theorem fl_X6_79 : FLk RX6 79 8 4 := ⟨RX9, TX9, 11, rfl, by decide, inX9, tw_166⟩
theorem fp_X6_79 : FPk RX6 79 8 4 .int := ⟨RX9, TX9, 11, tyX9, rfl, by decide, inX9, tw_166, tyX9_ok, nmX9, rfl, by decide +kernel⟩
theorem fl_X10_153 : FLk RX10 153 8 4 := ⟨RX9, TX9, 11, rfl, by decide, inX9, tw_167⟩
theorem fp_X10_153 : FPk RX10 153 8 4 .int := ⟨RX9, TX9, 11, tyX9, rfl, by decide, inX9, tw_167, tyX9_ok, nmX9, rfl, by decide +kernel⟩
theorem fl_X9_28 : FLk RX9 28 8 5 := ⟨RX9, TX9, 11, rfl, by decide, inX9, tw_168⟩
theorem fl_X6_72 : FLk RX6 72 8 5 := ⟨RX9, TX9, 11, rfl, by decide, inX9, tw_169⟩
theorem fl_X9_32 : FLk RX9 32 8 6 := ⟨RX9, TX9, 11, rfl, by decide, inX9, tw_170⟩
theorem fl_X6_76 : FLk RX6 76 8 6 := ⟨RX9, TX9, 11, rfl, by decide, inX9, tw_171⟩
theorem fl_X9_35 : FLk RX9 35 8 7 := ⟨RX9, TX9, 11, rfl, by decide, inX9, tw_172⟩
theorem fl_X1_17 : FLk RX1 17 8 7 := ⟨RX9, TX9, 11, rfl, by decide, inX9, tw_173⟩
theorem fl_X6_82 : FLk RX6 82 8 7 := ⟨RX9, TX9, 11, rfl, by decide, inX9, tw_174⟩
theorem fl_X10_197 : FLk RX10 197 8 7 := ⟨RX9, TX9, 11, rfl, by decide, inX9, tw_175⟩
theorem fl_X9_38 : FLk RX9 38 8 8 := ⟨RX9, TX9, 11, rfl, by decide, inX9, tw_176⟩
theorem fl_X1_42 : FLk RX1 42 8 8 := ⟨RX9, TX9, 11, rfl, by decide, inX9, tw_177⟩
theorem fl_X6_89 : FLk RX6 89 8 8 := ⟨RX9, TX9, 11, rfl, by decide, inX9, tw_178⟩
theorem fl_X10_214 : FLk RX10 214 8 8 := ⟨RX9, TX9, 11, rfl, by decide, inX9, tw_179⟩
theorem fl_X9_41 : FLk RX9 41 8 9 := ⟨RX9, TX9, 11, rfl, by decide, inX9, tw_180⟩
theorem fl_X1_39 : FLk RX1 39 8 9 := ⟨RX9, TX9, 11, rfl, by decide, inX9, tw_181⟩
theorem fl_X6_91 : FLk RX6 91 8 9 := ⟨RX9, TX9, 11, rfl, by decide, inX9, tw_182⟩
theorem fl_X10_217 : FLk RX10 217 8 9 := ⟨RX9, TX9, 11, rfl, by decide, inX9, tw_183⟩
theorem fl_X9_44 : FLk RX9 44 8 10 := ⟨RX9, TX9, 11, rfl, by decide, inX9, tw_184⟩
theorem fl_X0_22 : FLk RX0 22 8 10 := ⟨RX9, TX9, 11, rfl, by decide, inX9, tw_185⟩
theorem fl_X5_40 : FLk RX5 40 8 10 := ⟨RX9, TX9, 11, rfl, by decide, inX9, tw_186⟩
theorem fl_X10_162 : FLk RX10 162 8 10 := ⟨RX9, TX9, 11, rfl, by decide, inX9, tw_187⟩
theorem fl_X0_11 : FLk RX0 11 0 0 := ⟨RX0, TX0, 3, rfl, by decide, inX0, tw_218⟩
theorem fl_X0_15 : FLk RX0 15 0 1 := ⟨RX0, TX0, 3, rfl, by decide, inX0, tw_219⟩
theorem fp_X0_15 : FPk RX0 15 0 1 .int := ⟨RX0, TX0, 3, tyX0, rfl, by decide, inX0, tw_219, tyX0_ok, nmX0, rfl, by decide +kernel⟩
theorem fl_X0_19 : FLk RX0 19 0 2 := ⟨RX0, TX0, 3, rfl, by decide, inX0, tw_220⟩
theorem fp_X0_19 : FPk RX0 19 0 2 .int := ⟨RX0, TX0, 3, tyX0, rfl, by decide, inX0, tw_220, tyX0_ok, nmX0, rfl, by decide +kernel⟩
theorem fl_X10_208 : FLk RX10 208 0 2 := ⟨RX0, TX0, 3, rfl, by decide, inX0, tw_221⟩
theorem fp_X10_208 : FPk RX10 208 0 2 .int := ⟨RX0, TX0, 3, tyX0, rfl, by decide, inX0, tw_221, tyX0_ok, nmX0, rfl, by decide +kernel⟩
theorem fl_X2_9 : FLk RX2 9 2 0 := ⟨RX2, TX2, 7, rfl, by decide, inX2, tw_235⟩
theorem fl_X2_15 : FLk RX2 15 2 1 := ⟨RX2, TX2, 7, rfl, by decide, inX2, tw_236⟩
theorem fl_X2_18 : FLk RX2 18 2 2 := ⟨RX2, TX2, 7, rfl, by decide, inX2, tw_237⟩
theorem fl_X2_21 : FLk RX2 21 2 3 := ⟨RX2, TX2, 7, rfl, by decide, inX2, tw_238⟩
theorem fl_X2_24 : FLk RX2 24 2 4 := ⟨RX2, TX2, 7, rfl, by decide, inX2, tw_239⟩
theorem fp_X2_24 : FPk RX2 24 2 4 .int := ⟨RX2, TX2, 7, tyX2, rfl, by decide, inX2, tw_239, tyX2_ok, nmX2, rfl, by decide +kernel⟩
theorem fl_X2_28 : FLk RX2 28 2 5 := ⟨RX2, TX2, 7, rfl, by decide, inX2, tw_240⟩
theorem fl_X10_229 : FLk RX10 229 2 5 := ⟨RX2, TX2, 7, rfl, by decide, inX2, tw_241⟩
theorem fl_X2_31 : FLk RX2 31 2 6 := ⟨RX2, TX2, 7, rfl, by decide, inX2, tw_242⟩
theorem fp_X2_31 : FPk RX2 31 2 6 .int := ⟨RX2, TX2, 7, tyX2, rfl, by decide, inX2, tw_242, tyX2_ok, nmX2, rfl, by decide +kernel⟩
theorem fl_X10_226 : FLk RX10 226 2 6 := ⟨RX2, TX2, 7, rfl, by decide, inX2, tw_243⟩
theorem fp_X10_226 : FPk RX10 226 2 6 .int := ⟨RX2, TX2, 7, tyX2, rfl, by decide, inX2, tw_243, tyX2_ok, nmX2, rfl, by decide +kernel⟩
theorem fl_X3_9 : FLk RX3 9 3 0 := ⟨RX3, TX3, 2, rfl, by decide, inX3, tw_265⟩
theorem fl_X3_15 : FLk RX3 15 3 1 := ⟨RX3, TX3, 2, rfl, by decide, inX3, tw_266⟩
theorem fl_X5_9 : FLk RX5 9 4 0 := ⟨RX5, TX5, 4, rfl, by decide, inX5, tw_278⟩
theorem fl_X5_15 : FLk RX5 15 4 1 := ⟨RX5, TX5, 4, rfl, by decide, inX5, tw_279⟩
theorem fp_X5_15 : FPk RX5 15 4 1 .int := ⟨RX5, TX5, 4, tyX5, rfl, by decide, inX5, tw_279, tyX5_ok, nmX5, rfl, by decide +kernel⟩
theorem fl_X5_19 : FLk RX5 19 4 2 := ⟨RX5, TX5, 4, rfl, by decide, inX5, tw_280⟩
theorem fp_X5_19 : FPk RX5 19 4 2 .int := ⟨RX5, TX5, 4, tyX5, rfl, by decide, inX5, tw_280, tyX5_ok, nmX5, rfl, by decide +kernel⟩
theorem fl_X10_242 : FLk RX10 242 4 2 := ⟨RX5, TX5, 4, rfl, by decide, inX5, tw_281⟩
theorem fp_X10_242 : FPk RX10 242 4 2 .int := ⟨RX5, TX5, 4, tyX5, rfl, by decide, inX5, tw_281, tyX5_ok, nmX5, rfl, by decide +kernel⟩
theorem fl_X5_22 : FLk RX5 22 4 3 := ⟨RX5, TX5, 4, rfl, by decide, inX5, tw_282⟩
theorem fp_X5_22 : FPk RX5 22 4 3 .int := ⟨RX5, TX5, 4, tyX5, rfl, by decide, inX5, tw_282, tyX5_ok, nmX5, rfl, by decide +kernel⟩
theorem fl_X10_245 : FLk RX10 245 4 3 := ⟨RX5, TX5, 4, rfl, by decide, inX5, tw_283⟩
theorem fp_X10_245 : FPk RX10 245 4 3 .int := ⟨RX5, TX5, 4, tyX5, rfl, by decide, inX5, tw_283, tyX5_ok, nmX5, rfl, by decide +kernel⟩
theorem fl_X1_9 : FLk RX1 9 1 0 := ⟨RX1, TX1, 2, rfl, by decide, inX1, tw_299⟩
theorem fl_X10_280 : FLk RX10 280 1 0 := ⟨RX1, TX1, 2, rfl, by decide, inX1, tw_300⟩
theorem fl_X1_13 : FLk RX1 13 1 1 := ⟨RX1, TX1, 2, rfl, by decide, inX1, tw_301⟩
theorem fp_X1_13 : FPk RX1 13 1 1 .int := ⟨RX1, TX1, 2, tyX1, rfl, by decide, inX1, tw_301, tyX1_ok, nmX1, rfl, by decide +kernel⟩
theorem fl_X10_277 : FLk RX10 277 1 1 := ⟨RX1, TX1, 2, rfl, by decide, inX1, tw_302⟩
theorem fp_X10_277 : FPk RX10 277 1 1 .int := ⟨RX1, TX1, 2, tyX1, rfl, by decide, inX1, tw_302, tyX1_ok, nmX1, rfl, by decide +kernel⟩
theorem fl_X10_10 : FLk RX10 10 9 0 := ⟨RX10, TX10, 12, rfl, by decide, inX10, tw_308⟩
theorem fl_X10_19 : FLk RX10 19 9 1 := ⟨RX10, TX10, 12, rfl, by decide, inX10, tw_309⟩
theorem fl_X10_26 : FLk RX10 26 9 2 := ⟨RX10, TX10, 12, rfl, by decide, inX10, tw_310⟩
theorem fl_X10_30 : FLk RX10 30 9 3 := ⟨RX10, TX10, 12, rfl, by decide, inX10, tw_311⟩
theorem fl_X10_33 : FLk RX10 33 9 4 := ⟨RX10, TX10, 12, rfl, by decide, inX10, tw_312⟩
theorem fl_X10_40 : FLk RX10 40 9 5 := ⟨RX10, TX10, 12, rfl, by decide, inX10, tw_313⟩
theorem fl_X10_47 : FLk RX10 47 9 6 := ⟨RX10, TX10, 12, rfl, by decide, inX10, tw_314⟩
theorem fl_X10_54 : FLk RX10 54 9 7 := ⟨RX10, TX10, 12, rfl, by decide, inX10, tw_315⟩
theorem fl_X10_61 : FLk RX10 61 9 8 := ⟨RX10, TX10, 12, rfl, by decide, inX10, tw_316⟩
theorem fl_X10_68 : FLk RX10 68 9 9 := ⟨RX10, TX10, 12, rfl, by decide, inX10, tw_317⟩
theorem fl_X10_72 : FLk RX10 72 9 10 := ⟨RX10, TX10, 12, rfl, by decide, inX10, tw_318⟩
theorem fp_X10_72 : FPk RX10 72 9 10 .int := ⟨RX10, TX10, 12, tyX10, rfl, by decide, inX10, tw_318, tyX10_ok, nmX10, rfl, by decide +kernel⟩
theorem fl_X10_76 : FLk RX10 76 9 11 := ⟨RX10, TX10, 12, rfl, by decide, inX10, tw_319⟩
theorem fp_X10_76 : FPk RX10 76 9 11 .int := ⟨RX10, TX10, 12, tyX10, rfl, by decide, inX10, tw_319, tyX10_ok, nmX10, rfl, by decide +kernel⟩
theorem fl_X11_50 : FLk RX11 50 10 0 := ⟨RX11, TX11, 29, rfl, by decide, inX11, tw_855⟩
theorem fp_X11_50 : FPk RX11 50 10 0 .int := ⟨RX11, TX11, 29, tyX11, rfl, by decide, inX11, tw_855, tyX11_ok, nmX11, rfl, by decide +kernel⟩
theorem fl_X11_54 : FLk RX11 54 10 1 := ⟨RX11, TX11, 29, rfl, by decide, inX11, tw_856⟩
theorem fp_X11_54 : FPk RX11 54 10 1 .int := ⟨RX11, TX11, 29, tyX11, rfl, by decide, inX11, tw_856, tyX11_ok, nmX11, rfl, by decide +kernel⟩
theorem fl_X11_7 : FLk RX11 7 10 2 := ⟨RX11, TX11, 29, rfl, by decide, inX11, tw_857⟩
theorem fl_X11_13 : FLk RX11 13 10 3 := ⟨RX11, TX11, 29, rfl, by decide, inX11, tw_858⟩
theorem fl_X11_16 : FLk RX11 16 10 4 := ⟨RX11, TX11, 29, rfl, by decide, inX11, tw_859⟩
theorem fl_X11_19 : FLk RX11 19 10 5 := ⟨RX11, TX11, 29, rfl, by decide, inX11, tw_860⟩
theorem fl_X11_22 : FLk RX11 22 10 6 := ⟨RX11, TX11, 29, rfl, by decide, inX11, tw_861⟩
theorem fl_X11_177 : FLk RX11 177 10 7 := ⟨RX11, TX11, 29, rfl, by decide, inX11, tw_862⟩
theorem fp_X11_177 : FPk RX11 177 10 7 .boolean := ⟨RX11, TX11, 29, tyX11, rfl, by decide, inX11, tw_862, tyX11_ok, nmX11, rfl, by decide +kernel⟩
theorem fl_X11_25 : FLk RX11 25 10 8 := ⟨RX11, TX11, 29, rfl, by decide, inX11, tw_863⟩
theorem fl_X11_181 : FLk RX11 181 10 9 := ⟨RX11, TX11, 29, rfl, by decide, inX11, tw_864⟩
theorem fp_X11_181 : FPk RX11 181 10 9 .int := ⟨RX11, TX11, 29, tyX11, rfl, by decide, inX11, tw_864, tyX11_ok, nmX11, rfl, by decide +kernel⟩
theorem fl_X11_28 : FLk RX11 28 10 10 := ⟨RX11, TX11, 29, rfl, by decide, inX11, tw_865⟩
theorem fl_X11_77 : FLk RX11 77 10 11 := ⟨RX11, TX11, 29, rfl, by decide, inX11, tw_866⟩
theorem fp_X11_77 : FPk RX11 77 10 11 .int := ⟨RX11, TX11, 29, tyX11, rfl, by decide, inX11, tw_866, tyX11_ok, nmX11, rfl, by decide +kernel⟩
theorem fl_X11_173 : FLk RX11 173 10 12 := ⟨RX11, TX11, 29, rfl, by decide, inX11, tw_867⟩
theorem fp_X11_173 : FPk RX11 173 10 12 .int := ⟨RX11, TX11, 29, tyX11, rfl, by decide, inX11, tw_867, tyX11_ok, nmX11, rfl, by decide +kernel⟩
theorem fl_X11_83 : FLk RX11 83 10 13 := ⟨RX11, TX11, 29, rfl, by decide, inX11, tw_868⟩
theorem fp_X11_83 : FPk RX11 83 10 13 .int := ⟨RX11, TX11, 29, tyX11, rfl, by decide, inX11, tw_868, tyX11_ok, nmX11, rfl, by decide +kernel⟩
theorem fl_X11_87 : FLk RX11 87 10 14 := ⟨RX11, TX11, 29, rfl, by decide, inX11, tw_869⟩
theorem fp_X11_87 : FPk RX11 87 10 14 .int := ⟨RX11, TX11, 29, tyX11, rfl, by decide, inX11, tw_869, tyX11_ok, nmX11, rfl, by decide +kernel⟩
theorem fl_X11_96 : FLk RX11 96 10 15 := ⟨RX11, TX11, 29, rfl, by decide, inX11, tw_870⟩
theorem fp_X11_96 : FPk RX11 96 10 15 .int := ⟨RX11, TX11, 29, tyX11, rfl, by decide, inX11, tw_870, tyX11_ok, nmX11, rfl, by decide +kernel⟩
theorem fl_X11_93 : FLk RX11 93 10 16 := ⟨RX11, TX11, 29, rfl, by decide, inX11, tw_871⟩
theorem fp_X11_93 : FPk RX11 93 10 16 .int := ⟨RX11, TX11, 29, tyX11, rfl, by decide, inX11, tw_871, tyX11_ok, nmX11, rfl, by decide +kernel⟩
theorem fl_X11_105 : FLk RX11 105 10 17 := ⟨RX11, TX11, 29, rfl, by decide, inX11, tw_872⟩
theorem fp_X11_105 : FPk RX11 105 10 17 .int := ⟨RX11, TX11, 29, tyX11, rfl, by decide, inX11, tw_872, tyX11_ok, nmX11, rfl, by decide +kernel⟩
theorem fl_X11_108 : FLk RX11 108 10 18 := ⟨RX11, TX11, 29, rfl, by decide, inX11, tw_873⟩
theorem fp_X11_108 : FPk RX11 108 10 18 .int := ⟨RX11, TX11, 29, tyX11, rfl, by decide, inX11, tw_873, tyX11_ok, nmX11, rfl, by decide +kernel⟩
theorem fl_X11_114 : FLk RX11 114 10 19 := ⟨RX11, TX11, 29, rfl, by decide, inX11, tw_874⟩
theorem fp_X11_114 : FPk RX11 114 10 19 .int := ⟨RX11, TX11, 29, tyX11, rfl, by decide, inX11, tw_874, tyX11_ok, nmX11, rfl, by decide +kernel⟩
theorem fl_X11_31 : FLk RX11 31 10 20 := ⟨RX11, TX11, 29, rfl, by decide, inX11, tw_875⟩
theorem fl_X11_219 : FLk RX11 219 10 21 := ⟨RX11, TX11, 29, rfl, by decide, inX11, tw_876⟩
theorem fp_X11_219 : FPk RX11 219 10 21 .long := ⟨RX11, TX11, 29, tyX11, rfl, by decide, inX11, tw_876, tyX11_ok, nmX11, rfl, by decide +kernel⟩
theorem fl_X11_252 : FLk RX11 252 10 22 := ⟨RX11, TX11, 29, rfl, by decide, inX11, tw_877⟩
theorem fp_X11_252 : FPk RX11 252 10 22 .int := ⟨RX11, TX11, 29, tyX11, rfl, by decide, inX11, tw_877, tyX11_ok, nmX11, rfl, by decide +kernel⟩
theorem fl_X11_34 : FLk RX11 34 10 23 := ⟨RX11, TX11, 29, rfl, by decide, inX11, tw_878⟩
theorem fl_X11_37 : FLk RX11 37 10 24 := ⟨RX11, TX11, 29, rfl, by decide, inX11, tw_879⟩
theorem fl_X11_40 : FLk RX11 40 10 25 := ⟨RX11, TX11, 29, rfl, by decide, inX11, tw_880⟩
theorem fl_X11_44 : FLk RX11 44 10 26 := ⟨RX11, TX11, 29, rfl, by decide, inX11, tw_881⟩
theorem fl_X11_47 : FLk RX11 47 10 27 := ⟨RX11, TX11, 29, rfl, by decide, inX11, tw_882⟩
theorem fl_X11_281 : FLk RX11 281 10 28 := ⟨RX11, TX11, 29, rfl, by decide, inX11, tw_883⟩
theorem fp_X11_281 : FPk RX11 281 10 28 .int := ⟨RX11, TX11, 29, tyX11, rfl, by decide, inX11, tw_883, tyX11_ok, nmX11, rfl, by decide +kernel⟩
end
section
section WArows
variable {p : Program} {l : Launch} {e : Env} {R : Room} {s : State} {m : MethodId} {args : Array Value} {below : List Frame} {meth : Method} {c : Code} {cc : ByteArray} {own : String} {nL : Nat} {ret : Option FieldType} {E : En} {Q : State → Prop} {nc ns pc : Nat} {L : List (Option Value)} {st : List Value} {σ : Sg}
theorem wa_ldcS (cx : CX p s m args meth c cc RX6 nL ret E) {idx : Nat} (i : Nat) (hi : i < 8) (hd : decode cc pc = .ok (.ldc idx, 2)) (hx : kix i = idx) (k : WA p l e R s m args below meth c nL E nc ns Q (pc + 2) L (.ref (eK E i) :: st) σ) : WA p l e R s m args below meth c nL E nc ns Q (pc) L (st) σ := by
  subst hx
  exact fun H locs ls hP hD hS hl => va_ldcS cx.1 cx.2.1 cx.2.2.2.1 (cx.2.2.2.2.2.2.2.2.1.2.2.2.2 i hi) hd (k H locs ls hP hD hS hl)
theorem wa_getKV (cx : CX p s m args meth c cc own nL ret E) {idx i : Nat} (hi : i < 8) (hw : Cond.fieldLink own idx "java/lang/String" "value" "[B" ∈ gw) (hd : decode cc pc = .ok (.getfield idx, 3)) (k : WA p l e R s m args below meth c nL E nc ns Q (pc + 3) L (.ref (eV E i) :: st) σ) : WA p l e R s m args below meth c nL E nc ns Q (pc) L (.ref (eK E i) :: st) σ := fun H locs ls hP hD hS hl => vk_getf cx.1 cx.2.1 (cx.2.2.2.2.2.2.2.2.1.2.2.2.1.1 i hi).2.2.1 hS cx.2.2.2.1 (cx.2.2.2.2.1 _ hw) (fun _ h => h) hd (k H locs ls hP hD hS hl)
theorem wa_getKC (cx : CX p s m args meth c cc own nL ret E) {idx i : Nat} (hi : i < 8) (hw : Cond.fieldLink own idx "java/lang/String" "coder" "B" ∈ gw) (hd : decode cc pc = .ok (.getfield idx, 3)) (k : WA p l e R s m args below meth c nL E nc ns Q (pc + 3) L (.int 0 :: st) σ) : WA p l e R s m args below meth c nL E nc ns Q (pc) L (.ref (eK E i) :: st) σ := fun H locs ls hP hD hS hl => vk_getf cx.1 cx.2.1 (cx.2.2.2.2.2.2.2.2.1.2.2.2.1.1 i hi).2.1 hS cx.2.2.2.1 (cx.2.2.2.2.1 _ hw) (fun _ h => h) hd (k H locs ls hP hD hS hl)
theorem wa_lenV (cx : CX p s m args meth c cc own nL ret E) {i : Nat} (hi : i < 8) (hd : decode cc pc = .ok (.arraylength, 1)) (k : WA p l e R s m args below meth c nL E nc ns Q (pc + 1) L (.int (Int32.ofNat (klen.getD i 0)) :: st) σ) : WA p l e R s m args below meth c nL E nc ns Q (pc) L (.ref (eV E i) :: st) σ := fun H locs ls hP hD hS hl => va_tlen cx.1 cx.2.1 (cx.2.2.2.2.2.2.2.2.1.2.2.2.1.1 i hi).2.2.2 hS rfl hd (k H locs ls hP hD hS hl)
theorem wa_baldV (cx : CX p s m args meth c cc own nL ret E) {i : Nat} {j : Int32} (hi : i < 8) (hin : inb j (klen.getD i 0) = true) (hd : decode cc pc = .ok (.baload, 1)) (k : WA p l e R s m args below meth c nL E nc ns Q (pc + 1) L (.int ((kbyt.getD i []).getD j.toNatClampNeg 0) :: st) σ) : WA p l e R s m args below meth c nL E nc ns Q (pc) L (.int j :: .ref (eV E i) :: st) σ := fun H locs ls hP hD hS hl => va_tb cx.1 cx.2.1 (cx.2.2.2.2.2.2.2.2.1.2.2.2.1.1 i hi).2.2.2 hS (inb_vp hin) rfl hd (k H locs ls hP hD hS hl)
theorem wa_getsC (cx : CX p s m args meth c cc own nL ret E) {idx : Nat} (hw : Cond.fieldLink own idx RJ0 "COMPACT_STRINGS" "Z" ∈ gw) (hd : decode cc pc = .ok (.getstatic idx, 3)) (k : WA p l e R s m args below meth c nL E nc ns Q (pc + 3) L (.int 1 :: st) σ) : WA p l e R s m args below meth c nL E nc ns Q (pc) L (st) σ := fun H locs ls hP hD hS hl => va_gets cx.1 cx.2.1 cx.2.2.2.2.2.2.2.2.1.2.1 hS cx.2.2.2.1 (cx.2.2.2.2.1 _ hw) (fun _ h => h) hd (k H locs ls hP hD hS hl)
theorem wa_getsQ (cx : CX p s m args meth c cc own nL ret E) {idx : Nat} (hw : Cond.fieldLink own idx RJ3 "SIOOBE_FORMATTER" "Ljava/util/function/BiFunction;" ∈ gw) (hd : decode cc pc = .ok (.getstatic idx, 3)) (k : ∀ v : Value, (v = .null ∨ ∃ t, v = .ref t) → WA p l e R s m args below meth c nL E nc ns Q (pc + 3) L (v :: st) σ) : WA p l e R s m args below meth c nL E nc ns Q (pc) L (st) σ := by
  intro H locs ls hP hD hS hl
  rcases cx.2.2.2.2.2.2.2.2.1.2.2.1 with h | ⟨t, h⟩
  · exact va_gets cx.1 cx.2.1 h hS cx.2.2.2.1 (cx.2.2.2.2.1 _ hw) (fun _ h => h) hd (k _ (Or.inl rfl) H locs ls hP hD hS hl)
  · exact va_gets cx.1 cx.2.1 h hS cx.2.2.2.1 (cx.2.2.2.2.1 _ hw) (fun _ h => h) hd (k _ (Or.inr ⟨t, rfl⟩) H locs ls hP hD hS hl)
theorem wa_nret {ty : FieldType} (cx : CX p s m args meth c cc own nL (some ty) E) {v : Int32} (hn : narrow ty (.int v) = .int v) (hd : decode cc pc = .ok (.ireturn, 1)) : WA p l e R s m args below meth c nL E nc ns (MQ below (Qcq E s.heap.size (some (.int v)) σ) args s nc ns (AE E s.heap.size)) pc L [.int v] σ := fun H locs ls hP hD hS hl => W.zret cx.1 cx.2.1 cx.2.2.2.2.2.2.1 hn (fun t ht hW => ⟨rfl, by rw [ht]; exact hP, hS.F ht⟩) hS.2.2 hd cx.2.2.2.2.2.2.2.1
theorem wa_callK (cx : CX p s m args meth c cc own nL ret E) {y : MethodName} {cy : ByteArray} {mL n idx i d : Nat} {rt : Option FieldType} {rest : List Value} {x : Int32} {τ : Sg} (As : List Value) (hi8 : i < 8) (hC : CT l y cy mL rt d E σ (.ref (eK E i) :: As) (some (.int x)) τ) (hmi : MI y cy mL rt n) (hlk : Cond.methodLink own idx y ∈ gw) (hcls : y.cls = "java/lang/String") (hn : As.length = n) (hst : st = As.reverse ++ .ref (eK E i) :: rest) (hrs : (rest.map fun v => v.category).sum ≤ 8) (hR : d + 1 ≤ R.frames ∧ 8 + (mL + 11) + 48 * d ≤ R.locals) (hf : nc ≤ R.cells ∧ ns ≤ R.slots) (hd : decode cc pc = .ok (.invokevirtual idx, 3)) (k : WA p l e R s m args below meth c nL E nc ns Q (pc + 3) L (.int x :: rest) τ) : WA p l e R s m args below meth c nL E nc ns Q (pc) L (st) σ := by
  intro H locs ls hP hD hS hl
  subst hst
  obtain ⟨hi1, hi2, hi3, hi4, hi5⟩ := hmi
  have ht := cx.2.2.2.2.1
  have hws : ∀ w ∈ wsV own idx y.cls y (Cond.code y cy mL rt :: gw), w ∈ gw := by
    intro w hw
    unfold wsV at hw
    rcases List.mem_append.mp hw with h | h
    · simp only [List.mem_cons, List.not_mem_nil, or_false] at h
      rcases h with rfl | rfl | rfl | rfl
      · exact hlk
      · exact hi1
      · exact hi2
      · exact hi3
    · rcases List.mem_cons.mp h with rfl | h
      · exact hi4
      · exact h
  have hrec := vk_recv cx.2.2.2.2.2.2.2.2.1.2.2.2.1 hi8 hS
  rw [← hcls] at hrec
  refine wa_run cx (va_runV (As := As) (rest := rest) (C := y.cls) ⟨cx.1, cx.2.1, cx.2.2.1, cx.2.2.2.1, ht⟩ (hC H.size) (cwV n ht (gi_of hws) rfl rfl rfl ⟨rfl, hi5⟩ hR) ⟨Pcq_blind, hrec, fun U hU hW => ⟨rfl, by rw [hU], by rw [hU]; exact hP, va_K.moved hW.alike cx.2.2.2.2.2.1, hD.weaken (fun _ _ _ _ => trivial), cx.2.2.2.2.2.2.2.2.1.move hS hU hW, cx.2.2.2.2.2.2.2.2.2⟩⟩ rfl hn hl.1 rfl (lv_room hrs) hd hf) hS (AE_up hS.1) (fun H1 locs1 hP1 hS1 => k H1 locs1 ls hP1 (wl_D hD) hS1 hl)
end WArows
theorem mi_J0_length_8abf5 : MI yJ0_length_8abf5 cJ0_length_8abf5 1 (some .int) 0 := ⟨tw_470, tw_471, tw_70, tw_472, by decide +kernel, by decide +kernel, by decide +kernel⟩
theorem mi_J0_coder_7d493 : MI yJ0_coder_7d493 cJ0_coder_7d493 1 (some .byte) 0 := ⟨tw_474, tw_475, tw_70, tw_476, by decide +kernel, by decide +kernel, by decide +kernel⟩
theorem mi_J0_charAt_5068e : MI yJ0_charAt_5068e cJ0_charAt_5068e 2 (some .char) 1 := ⟨tw_480, tw_481, tw_70, tw_482, by decide +kernel, by decide +kernel, by decide +kernel⟩
theorem mi_J0_isLatin1_aae02 : MI yJ0_isLatin1_aae02 cJ0_isLatin1_aae02 1 (some .boolean) 0 := ⟨tw_484, tw_485, tw_70, tw_486, by decide +kernel, by decide +kernel, by decide +kernel⟩
theorem ms_J1_charAt_3b067 : MS yJ1_charAt_3b067 cJ1_charAt_3b067 2 (some .char) 2 := ⟨tw_488, tw_71, tw_489, by decide +kernel, by decide +kernel, by decide +kernel⟩
theorem ms_J0_checkIndex_df160 : MS yJ0_checkIndex_df160 cJ0_checkIndex_df160 2 none 2 := ⟨tw_491, tw_70, tw_492, by decide +kernel, by decide +kernel, by decide +kernel⟩
theorem ms_J3_checkIndex_8e157 : MS yJ3_checkIndex_8e157 cJ3_checkIndex_8e157 3 (some .int) 3 := ⟨tw_496, tw_72, tw_497, by decide +kernel, by decide +kernel, by decide +kernel⟩
set_option maxHeartbeats 4000000 in
set_option maxRecDepth 100000 in
theorem ct_coder (l : Launch) (E : En) (σ : Sg) (i : Nat) (hi : i < 8) : CT l yJ0_coder_7d493 cJ0_coder_7d493 1 (some .byte) 0 E σ [.ref (eK E i)] (some (.int 0)) σ := by
  refine CT.of RJ0 [some (.ref (eK E i))] rfl (by decide +kernel) (Nat.le_of_ble_eq_true rfl) rfl ?_
  intro p e s m args below meth c cx
  refine wa_getsC (pc := 0) cx tw_477 dJ0_coder_7d493_0 ?_
  refine wa_if_eq (pc := 3) cx 13 dJ0_coder_7d493_3 rfl (fun h => absurd h (by decide)) (fun _ => ?_)
  refine wa_aload_n (pc := 6) cx 0 dJ0_coder_7d493_6 rfl rfl ?_
  refine wa_getKC (pc := 7) cx hi tw_1273 dJ0_coder_7d493_7 ?_
  refine wa_goto (pc := 10) cx 14 dJ0_coder_7d493_10 rfl ?_
  exact wa_nret (pc := 14) cx (by decide) dJ0_coder_7d493_14
set_option maxHeartbeats 4000000 in
set_option maxRecDepth 100000 in
theorem ct_isLatin1 (l : Launch) (E : En) (σ : Sg) (i : Nat) (hi : i < 8) : CT l yJ0_isLatin1_aae02 cJ0_isLatin1_aae02 1 (some .boolean) 0 E σ [.ref (eK E i)] (some (.int 1)) σ := by
  refine CT.of RJ0 [some (.ref (eK E i))] rfl (by decide +kernel) (Nat.le_of_ble_eq_true rfl) rfl ?_
  intro p e s m args below meth c cx
  refine wa_getsC (pc := 0) cx tw_477 dJ0_isLatin1_aae02_0 ?_
  refine wa_if_eq (pc := 3) cx 17 dJ0_isLatin1_aae02_3 rfl (fun h => absurd h (by decide)) (fun _ => ?_)
  refine wa_aload_n (pc := 6) cx 0 dJ0_isLatin1_aae02_6 rfl rfl ?_
  refine wa_getKC (pc := 7) cx hi tw_1273 dJ0_isLatin1_aae02_7 ?_
  refine wa_if_ne (pc := 10) cx 17 dJ0_isLatin1_aae02_10 rfl (fun h => absurd rfl h) (fun _ => ?_)
  refine wa_iconst (pc := 13) (v := 1) cx dJ0_isLatin1_aae02_13 (by decide) ?_
  refine wa_goto (pc := 14) cx 18 dJ0_isLatin1_aae02_14 rfl ?_
  exact wa_zret (pc := 18) cx rfl dJ0_isLatin1_aae02_18
set_option maxHeartbeats 4000000 in
set_option maxRecDepth 100000 in
theorem ct_length (l : Launch) (E : En) (σ : Sg) (i : Nat) (hi : i < 8) : CT l yJ0_length_8abf5 cJ0_length_8abf5 1 (some .int) 1 E σ [.ref (eK E i)] (some (.int (jshr (Int32.ofNat (klen.getD i 0)) 0))) σ := by
  refine CT.of RJ0 [some (.ref (eK E i))] rfl (by decide +kernel) (Nat.le_of_ble_eq_true rfl) rfl ?_
  intro p e s m args below meth c cx
  refine wa_aload_n (pc := 0) cx 0 dJ0_length_8abf5_0 rfl rfl ?_
  refine wa_getKV (pc := 1) cx hi tw_1272 dJ0_length_8abf5_1 ?_
  refine wa_lenV (pc := 4) cx hi dJ0_length_8abf5_4 ?_
  refine wa_aload_n (pc := 5) cx 0 dJ0_length_8abf5_5 rfl rfl ?_
  refine wa_callK (pc := 6) cx [] hi (ct_coder l E _ i hi) mi_J0_coder_7d493 tw_473 rfl rfl rfl (Nat.le_of_ble_eq_true rfl) ⟨Nat.le_of_ble_eq_true rfl, Nat.le_of_ble_eq_true rfl⟩ ⟨Nat.zero_le _, Nat.zero_le _⟩ dJ0_length_8abf5_6 ?_
  refine wa_ishr (pc := 9) cx dJ0_length_8abf5_9 ?_
  exact wa_iret (pc := 10) cx dJ0_length_8abf5_10
set_option maxHeartbeats 4000000 in
set_option maxRecDepth 100000 in
theorem ct_checkIndex3 (l : Launch) (E : En) (σ : Sg) (i n : Int32) (v : Value) (hv : v = .null ∨ ∃ t, v = .ref t) (h0 : ¬ i < 0) (hn : i < n) : CT l yJ3_checkIndex_8e157 cJ3_checkIndex_8e157 3 (some .int) 0 E σ [.int i, .int n, v] (some (.int i)) σ := by
  rcases hv with rfl | ⟨t, rfl⟩
  · refine CT.of RJ3 [some (.int i), some (.int n), some (.null)] rfl (by decide +kernel) (Nat.le_of_ble_eq_true rfl) rfl ?_
    intro p e s m args below meth c cx
    refine wa_iload_n (pc := 0) cx 0 dJ3_checkIndex_8e157_0 rfl rfl ?_
    refine wa_if_lt (pc := 1) cx 9 dJ3_checkIndex_8e157_1 rfl (fun h => absurd h h0) (fun _ => ?_)
    refine wa_iload_n (pc := 4) cx 0 dJ3_checkIndex_8e157_4 rfl rfl ?_
    refine wa_iload_n (pc := 5) cx 1 dJ3_checkIndex_8e157_5 rfl rfl ?_
    refine wa_icmp_lt (pc := 6) cx 16 dJ3_checkIndex_8e157_6 rfl (fun _ => ?_) (fun h => absurd hn h)
    refine wa_iload_n (pc := 16) cx 0 dJ3_checkIndex_8e157_16 rfl rfl ?_
    exact wa_iret (pc := 17) cx dJ3_checkIndex_8e157_17
  · refine CT.of RJ3 [some (.int i), some (.int n), some (.ref t)] rfl (by decide +kernel) (Nat.le_of_ble_eq_true rfl) rfl ?_
    intro p e s m args below meth c cx
    refine wa_iload_n (pc := 0) cx 0 dJ3_checkIndex_8e157_0 rfl rfl ?_
    refine wa_if_lt (pc := 1) cx 9 dJ3_checkIndex_8e157_1 rfl (fun h => absurd h h0) (fun _ => ?_)
    refine wa_iload_n (pc := 4) cx 0 dJ3_checkIndex_8e157_4 rfl rfl ?_
    refine wa_iload_n (pc := 5) cx 1 dJ3_checkIndex_8e157_5 rfl rfl ?_
    refine wa_icmp_lt (pc := 6) cx 16 dJ3_checkIndex_8e157_6 rfl (fun _ => ?_) (fun h => absurd hn h)
    refine wa_iload_n (pc := 16) cx 0 dJ3_checkIndex_8e157_16 rfl rfl ?_
    exact wa_iret (pc := 17) cx dJ3_checkIndex_8e157_17
set_option maxHeartbeats 4000000 in
set_option maxRecDepth 100000 in
theorem ct_checkIndex0 (l : Launch) (E : En) (σ : Sg) (i n : Int32) (h0 : ¬ i < 0) (hn : i < n) : CT l yJ0_checkIndex_df160 cJ0_checkIndex_df160 2 none 1 E σ [.int i, .int n] none σ := by
  refine CT.of RJ0 [some (.int i), some (.int n)] rfl (by decide +kernel) (Nat.le_of_ble_eq_true rfl) rfl ?_
  intro p e s m args below meth c cx
  refine wa_iload_n (pc := 0) cx 0 dJ0_checkIndex_df160_0 rfl rfl ?_
  refine wa_iload_n (pc := 1) cx 1 dJ0_checkIndex_df160_1 rfl rfl ?_
  refine wa_getsQ (pc := 2) cx tw_493 dJ0_checkIndex_df160_2 (fun v hv => ?_)
  refine wa_callSi (pc := 5) cx [.int i, .int n, v] (ct_checkIndex3 l E _ i n v hv h0 hn) ms_J3_checkIndex_8e157 tw_495 rfl rfl (Nat.le_of_ble_eq_true rfl) ⟨Nat.le_of_ble_eq_true rfl, Nat.le_of_ble_eq_true rfl⟩ ⟨Nat.zero_le _, Nat.zero_le _⟩ dJ0_checkIndex_df160_5 ?_
  refine wa_pop (pc := 8) cx dJ0_checkIndex_df160_8 rfl ?_
  exact wa_vret (pc := 9) cx dJ0_checkIndex_df160_9
/-- what charAt answers -/
def kch (i : Nat) (j : Int32) : Int32 := i2c (((kbyt.getD i []).getD j.toNatClampNeg 0) &&& 255)
theorem inb_lt {j : Int32} {n : Nat} (hn : n < 2 ^ 31) (h : inb j n = true) : ¬ j < 0 ∧ j < Int32.ofNat n := by
  obtain ⟨k, hk, rfl⟩ := vp_in_of (inb_vp h) hn
  exact ⟨nI_pos (by omega), nI_lt hk hn⟩
theorem klen_small : ∀ i, i < 8 → klen.getD i 0 < 2 ^ 31 := by decide +kernel
set_option maxHeartbeats 4000000 in
set_option maxRecDepth 100000 in
theorem ct_charAt1 (l : Launch) (E : En) (σ : Sg) (i : Nat) (hi : i < 8) (j : Int32) (hj : inb j (klen.getD i 0) = true) : CT l yJ1_charAt_3b067 cJ1_charAt_3b067 2 (some .char) 2 E σ [.ref (eV E i), .int j] (some (.int (kch i j))) σ := by
  refine CT.of RJ1 [some (.ref (eV E i)), some (.int j)] rfl (by decide +kernel) (Nat.le_of_ble_eq_true rfl) rfl ?_
  intro p e s m args below meth c cx
  have hb := inb_lt (klen_small i hi) hj
  refine wa_iload_n (pc := 0) cx 1 dJ1_charAt_3b067_0 rfl rfl ?_
  refine wa_aload_n (pc := 1) cx 0 dJ1_charAt_3b067_1 rfl rfl ?_
  refine wa_lenV (pc := 2) cx hi dJ1_charAt_3b067_2 ?_
  refine wa_callSv (pc := 3) cx [.int j, .int (Int32.ofNat (klen.getD i 0))] (ct_checkIndex0 l E _ j _ hb.1 hb.2) ms_J0_checkIndex_df160 tw_490 rfl rfl (Nat.le_of_ble_eq_true rfl) ⟨Nat.le_of_ble_eq_true rfl, Nat.le_of_ble_eq_true rfl⟩ ⟨Nat.zero_le _, Nat.zero_le _⟩ dJ1_charAt_3b067_3 ?_
  refine wa_aload_n (pc := 6) cx 0 dJ1_charAt_3b067_6 rfl rfl ?_
  refine wa_iload_n (pc := 7) cx 1 dJ1_charAt_3b067_7 rfl rfl ?_
  refine wa_baldV (pc := 8) cx hi hj dJ1_charAt_3b067_8 ?_
  refine wa_sipush (pc := 9) (v := 255) cx dJ1_charAt_3b067_9 (by decide) ?_
  refine wa_iand (pc := 12) cx dJ1_charAt_3b067_12 ?_
  refine wa_i2c (pc := 13) cx dJ1_charAt_3b067_13 ?_
  exact wa_nret (pc := 14) cx (pk_nc _) dJ1_charAt_3b067_14
set_option maxHeartbeats 4000000 in
set_option maxRecDepth 100000 in
theorem ct_charAt (l : Launch) (E : En) (σ : Sg) (i : Nat) (hi : i < 8) (j : Int32) (hj : inb j (klen.getD i 0) = true) : CT l yJ0_charAt_5068e cJ0_charAt_5068e 2 (some .char) 3 E σ [.ref (eK E i), .int j] (some (.int (kch i j))) σ := by
  refine CT.of RJ0 [some (.ref (eK E i)), some (.int j)] rfl (by decide +kernel) (Nat.le_of_ble_eq_true rfl) rfl ?_
  intro p e s m args below meth c cx
  refine wa_aload_n (pc := 0) cx 0 dJ0_charAt_5068e_0 rfl rfl ?_
  refine wa_callK (pc := 1) cx [] hi (ct_isLatin1 l E _ i hi) mi_J0_isLatin1_aae02 tw_483 rfl rfl rfl (Nat.le_of_ble_eq_true rfl) ⟨Nat.le_of_ble_eq_true rfl, Nat.le_of_ble_eq_true rfl⟩ ⟨Nat.zero_le _, Nat.zero_le _⟩ dJ0_charAt_5068e_1 ?_
  refine wa_if_eq (pc := 4) cx 16 dJ0_charAt_5068e_4 rfl (fun h => absurd h (by decide)) (fun _ => ?_)
  refine wa_aload_n (pc := 7) cx 0 dJ0_charAt_5068e_7 rfl rfl ?_
  refine wa_getKV (pc := 8) cx hi tw_1272 dJ0_charAt_5068e_8 ?_
  refine wa_iload_n (pc := 11) cx 1 dJ0_charAt_5068e_11 rfl rfl ?_
  refine wa_callSi (pc := 12) cx [.ref (eV E i), .int j] (ct_charAt1 l E _ i hi j hj) ms_J1_charAt_3b067 tw_487 rfl rfl (Nat.le_of_ble_eq_true rfl) ⟨Nat.le_of_ble_eq_true rfl, Nat.le_of_ble_eq_true rfl⟩ ⟨Nat.zero_le _, Nat.zero_le _⟩ dJ0_charAt_5068e_12 ?_
  exact wa_nret (pc := 15) cx (pk_nc _) dJ0_charAt_5068e_15
end
