section
-- ===== PART A: goes FIRST, ahead of the names: the tables' words, and 'selects' of the private methods out of them =====
/-- a private method of a class that the tables say can be made, by its rows of tables_1 -/
def lw_okq (q : MethodName × Nat) : Prop := (q.1.cls ≠ "java/lang/invoke/MethodHandle" ∧ q.1.cls ≠ "java/lang/invoke/VarHandle") ∧ Cond.instantiable q.1.cls q.2 ∈ tables_1 ∧ Cond.privateMethod q.1 ∈ tables_1 ∧ Cond.instanceMethod q.1 ∈ tables_1
theorem lw_p0 : lw_okq (⟨"FirstPolls", "refuse", "(I)I"⟩, 9) := ⟨⟨by decide +kernel, by decide +kernel⟩, List.mem_of_getElem? (i := 21) (by decide +kernel), List.mem_of_getElem? (i := 427) (by decide +kernel), List.mem_of_getElem? (i := 428) (by decide +kernel)⟩
theorem lw_p1 : lw_okq (⟨"FirstPolls", "accept", "(I)I"⟩, 9) := ⟨⟨by decide +kernel, by decide +kernel⟩, List.mem_of_getElem? (i := 21) (by decide +kernel), List.mem_of_getElem? (i := 439) (by decide +kernel), List.mem_of_getElem? (i := 440) (by decide +kernel)⟩
theorem lw_p2 : lw_okq (⟨"FirstPolls", "addName", "(IIIIII)I"⟩, 9) := ⟨⟨by decide +kernel, by decide +kernel⟩, List.mem_of_getElem? (i := 21) (by decide +kernel), List.mem_of_getElem? (i := 464) (by decide +kernel), List.mem_of_getElem? (i := 465) (by decide +kernel)⟩
theorem lw_p3 : lw_okq (⟨"FirstPolls", "addTold", "(III)Z"⟩, 9) := ⟨⟨by decide +kernel, by decide +kernel⟩, List.mem_of_getElem? (i := 21) (by decide +kernel), List.mem_of_getElem? (i := 480) (by decide +kernel), List.mem_of_getElem? (i := 481) (by decide +kernel)⟩
theorem lw_p4 : lw_okq (⟨"FirstPolls$View", "findInForce", "()V"⟩, 14) := ⟨⟨by decide +kernel, by decide +kernel⟩, List.mem_of_getElem? (i := 171) (by decide +kernel), List.mem_of_getElem? (i := 521) (by decide +kernel), List.mem_of_getElem? (i := 522) (by decide +kernel)⟩
theorem lw_p5 : lw_okq (⟨"FirstPolls$View", "putInForce", "(I)V"⟩, 14) := ⟨⟨by decide +kernel, by decide +kernel⟩, List.mem_of_getElem? (i := 171) (by decide +kernel), List.mem_of_getElem? (i := 533) (by decide +kernel), List.mem_of_getElem? (i := 534) (by decide +kernel)⟩
theorem lw_p6 : lw_okq (⟨"FirstPolls$View", "strikeOut", "(II)V"⟩, 14) := ⟨⟨by decide +kernel, by decide +kernel⟩, List.mem_of_getElem? (i := 171) (by decide +kernel), List.mem_of_getElem? (i := 537) (by decide +kernel), List.mem_of_getElem? (i := 538) (by decide +kernel)⟩
theorem lw_p7 : lw_okq (⟨"FirstPolls$View", "hasCome", "(III)Z"⟩, 14) := ⟨⟨by decide +kernel, by decide +kernel⟩, List.mem_of_getElem? (i := 171) (by decide +kernel), List.mem_of_getElem? (i := 548) (by decide +kernel), List.mem_of_getElem? (i := 549) (by decide +kernel)⟩
theorem lw_p8 : lw_okq (⟨"FirstPolls$View", "tellName", "(II)V"⟩, 14) := ⟨⟨by decide +kernel, by decide +kernel⟩, List.mem_of_getElem? (i := 171) (by decide +kernel), List.mem_of_getElem? (i := 561) (by decide +kernel), List.mem_of_getElem? (i := 562) (by decide +kernel)⟩
theorem lw_p9 : lw_okq (⟨"FirstPolls$Asked", "toldOf", "(I)I"⟩, 3) := ⟨⟨by decide +kernel, by decide +kernel⟩, List.mem_of_getElem? (i := 177) (by decide +kernel), List.mem_of_getElem? (i := 591) (by decide +kernel), List.mem_of_getElem? (i := 592) (by decide +kernel)⟩
theorem lw_p10 : lw_okq (⟨"FirstPolls$View", "areTwice", "(II)Z"⟩, 14) := ⟨⟨by decide +kernel, by decide +kernel⟩, List.mem_of_getElem? (i := 171) (by decide +kernel), List.mem_of_getElem? (i := 643) (by decide +kernel), List.mem_of_getElem? (i := 644) (by decide +kernel)⟩
theorem lw_p11 : lw_okq (⟨"FirstPolls$Reader", "splitTokens", "()V"⟩, 12) := ⟨⟨by decide +kernel, by decide +kernel⟩, List.mem_of_getElem? (i := 128) (by decide +kernel), List.mem_of_getElem? (i := 678) (by decide +kernel), List.mem_of_getElem? (i := 679) (by decide +kernel)⟩
theorem lw_p12 : lw_okq (⟨"FirstPolls$Reader", "runEnd", "(I)I"⟩, 12) := ⟨⟨by decide +kernel, by decide +kernel⟩, List.mem_of_getElem? (i := 128) (by decide +kernel), List.mem_of_getElem? (i := 682) (by decide +kernel), List.mem_of_getElem? (i := 683) (by decide +kernel)⟩
theorem lw_p13 : lw_okq (⟨"FirstPolls$Reader", "kindOf", "(II)I"⟩, 12) := ⟨⟨by decide +kernel, by decide +kernel⟩, List.mem_of_getElem? (i := 128) (by decide +kernel), List.mem_of_getElem? (i := 691) (by decide +kernel), List.mem_of_getElem? (i := 692) (by decide +kernel)⟩
theorem lw_p14 : lw_okq (⟨"FirstPolls$Reader", "isWord", "(III)Z"⟩, 12) := ⟨⟨by decide +kernel, by decide +kernel⟩, List.mem_of_getElem? (i := 128) (by decide +kernel), List.mem_of_getElem? (i := 695) (by decide +kernel), List.mem_of_getElem? (i := 696) (by decide +kernel)⟩
theorem lw_p15 : lw_okq (⟨"FirstPolls$Reader", "numberOf", "(II)I"⟩, 12) := ⟨⟨by decide +kernel, by decide +kernel⟩, List.mem_of_getElem? (i := 128) (by decide +kernel), List.mem_of_getElem? (i := 740) (by decide +kernel), List.mem_of_getElem? (i := 741) (by decide +kernel)⟩
def lw_privs_1 : List (MethodName × Nat) := [(⟨"FirstPolls", "refuse", "(I)I"⟩, 9), (⟨"FirstPolls", "accept", "(I)I"⟩, 9), (⟨"FirstPolls", "addName", "(IIIIII)I"⟩, 9), (⟨"FirstPolls", "addTold", "(III)Z"⟩, 9), (⟨"FirstPolls$View", "findInForce", "()V"⟩, 14), (⟨"FirstPolls$View", "putInForce", "(I)V"⟩, 14), (⟨"FirstPolls$View", "strikeOut", "(II)V"⟩, 14), (⟨"FirstPolls$View", "hasCome", "(III)Z"⟩, 14), (⟨"FirstPolls$View", "tellName", "(II)V"⟩, 14), (⟨"FirstPolls$Asked", "toldOf", "(I)I"⟩, 3), (⟨"FirstPolls$View", "areTwice", "(II)Z"⟩, 14), (⟨"FirstPolls$Reader", "splitTokens", "()V"⟩, 12), (⟨"FirstPolls$Reader", "runEnd", "(I)I"⟩, 12), (⟨"FirstPolls$Reader", "kindOf", "(II)I"⟩, 12), (⟨"FirstPolls$Reader", "isWord", "(III)Z"⟩, 12), (⟨"FirstPolls$Reader", "numberOf", "(II)I"⟩, 12)]
theorem lw_r1 : ∀ q ∈ lw_privs_1, lw_okq q := List.forall_mem_cons.mpr ⟨lw_p0, List.forall_mem_cons.mpr ⟨lw_p1, List.forall_mem_cons.mpr ⟨lw_p2, List.forall_mem_cons.mpr ⟨lw_p3, List.forall_mem_cons.mpr ⟨lw_p4, List.forall_mem_cons.mpr ⟨lw_p5, List.forall_mem_cons.mpr ⟨lw_p6, List.forall_mem_cons.mpr ⟨lw_p7, List.forall_mem_cons.mpr ⟨lw_p8, List.forall_mem_cons.mpr ⟨lw_p9, List.forall_mem_cons.mpr ⟨lw_p10, List.forall_mem_cons.mpr ⟨lw_p11, List.forall_mem_cons.mpr ⟨lw_p12, List.forall_mem_cons.mpr ⟨lw_p13, List.forall_mem_cons.mpr ⟨lw_p14, List.forall_mem_cons.mpr ⟨lw_p15, fun _ h => absurd h List.not_mem_nil⟩⟩⟩⟩⟩⟩⟩⟩⟩⟩⟩⟩⟩⟩⟩⟩
theorem lw_p16 : lw_okq (⟨"FirstPolls$Reader", "readClause", "()Z"⟩, 12) := ⟨⟨by decide +kernel, by decide +kernel⟩, List.mem_of_getElem? (i := 128) (by decide +kernel), List.mem_of_getElem? (i := 750) (by decide +kernel), List.mem_of_getElem? (i := 751) (by decide +kernel)⟩
theorem lw_p17 : lw_okq (⟨"FirstPolls$Reader", "kindHere", "()I"⟩, 12) := ⟨⟨by decide +kernel, by decide +kernel⟩, List.mem_of_getElem? (i := 128) (by decide +kernel), List.mem_of_getElem? (i := 754) (by decide +kernel), List.mem_of_getElem? (i := 755) (by decide +kernel)⟩
theorem lw_p18 : lw_okq (⟨"FirstPolls$Reader", "readNumber", "(III)Z"⟩, 12) := ⟨⟨by decide +kernel, by decide +kernel⟩, List.mem_of_getElem? (i := 128) (by decide +kernel), List.mem_of_getElem? (i := 760) (by decide +kernel), List.mem_of_getElem? (i := 761) (by decide +kernel)⟩
theorem lw_p19 : lw_okq (⟨"FirstPolls$Reader", "numberHere", "()I"⟩, 12) := ⟨⟨by decide +kernel, by decide +kernel⟩, List.mem_of_getElem? (i := 128) (by decide +kernel), List.mem_of_getElem? (i := 764) (by decide +kernel), List.mem_of_getElem? (i := 765) (by decide +kernel)⟩
theorem lw_p20 : lw_okq (⟨"FirstPolls$Reader", "takes", "(I)Z"⟩, 12) := ⟨⟨by decide +kernel, by decide +kernel⟩, List.mem_of_getElem? (i := 128) (by decide +kernel), List.mem_of_getElem? (i := 768) (by decide +kernel), List.mem_of_getElem? (i := 769) (by decide +kernel)⟩
theorem lw_p21 : lw_okq (⟨"FirstPolls$Reader", "readPhrase", "(III)Z"⟩, 12) := ⟨⟨by decide +kernel, by decide +kernel⟩, List.mem_of_getElem? (i := 128) (by decide +kernel), List.mem_of_getElem? (i := 772) (by decide +kernel), List.mem_of_getElem? (i := 773) (by decide +kernel)⟩
theorem lw_p22 : lw_okq (⟨"FirstPolls$Reader", "readLevel", "(II)Z"⟩, 12) := ⟨⟨by decide +kernel, by decide +kernel⟩, List.mem_of_getElem? (i := 128) (by decide +kernel), List.mem_of_getElem? (i := 776) (by decide +kernel), List.mem_of_getElem? (i := 777) (by decide +kernel)⟩
theorem lw_p23 : lw_okq (⟨"FirstPolls$Reader", "readPlain", "(I)Z"⟩, 12) := ⟨⟨by decide +kernel, by decide +kernel⟩, List.mem_of_getElem? (i := 128) (by decide +kernel), List.mem_of_getElem? (i := 780) (by decide +kernel), List.mem_of_getElem? (i := 781) (by decide +kernel)⟩
theorem lw_p24 : lw_okq (⟨"FirstPolls$Reader", "readBracket", "(III)Z"⟩, 12) := ⟨⟨by decide +kernel, by decide +kernel⟩, List.mem_of_getElem? (i := 128) (by decide +kernel), List.mem_of_getElem? (i := 784) (by decide +kernel), List.mem_of_getElem? (i := 785) (by decide +kernel)⟩
theorem lw_p25 : lw_okq (⟨"FirstPolls$Reader", "readLeaf", "(II)Z"⟩, 12) := ⟨⟨by decide +kernel, by decide +kernel⟩, List.mem_of_getElem? (i := 128) (by decide +kernel), List.mem_of_getElem? (i := 788) (by decide +kernel), List.mem_of_getElem? (i := 789) (by decide +kernel)⟩
theorem lw_p26 : lw_okq (⟨"FirstPolls$Reader", "readCompared", "(I)Z"⟩, 12) := ⟨⟨by decide +kernel, by decide +kernel⟩, List.mem_of_getElem? (i := 128) (by decide +kernel), List.mem_of_getElem? (i := 796) (by decide +kernel), List.mem_of_getElem? (i := 797) (by decide +kernel)⟩
theorem lw_p27 : lw_okq (⟨"FirstPolls$Reader", "readPart", "(I)Z"⟩, 12) := ⟨⟨by decide +kernel, by decide +kernel⟩, List.mem_of_getElem? (i := 128) (by decide +kernel), List.mem_of_getElem? (i := 800) (by decide +kernel), List.mem_of_getElem? (i := 801) (by decide +kernel)⟩
theorem lw_p28 : lw_okq (⟨"FirstPolls$Reader", "joinAt", "(I)I"⟩, 12) := ⟨⟨by decide +kernel, by decide +kernel⟩, List.mem_of_getElem? (i := 128) (by decide +kernel), List.mem_of_getElem? (i := 805) (by decide +kernel), List.mem_of_getElem? (i := 806) (by decide +kernel)⟩
theorem lw_p29 : lw_okq (⟨"FirstPolls$Reader", "readJoined", "(III)Z"⟩, 12) := ⟨⟨by decide +kernel, by decide +kernel⟩, List.mem_of_getElem? (i := 128) (by decide +kernel), List.mem_of_getElem? (i := 809) (by decide +kernel), List.mem_of_getElem? (i := 810) (by decide +kernel)⟩
theorem lw_p30 : lw_okq (⟨"FirstPolls$Reader", "startHere", "()I"⟩, 12) := ⟨⟨by decide +kernel, by decide +kernel⟩, List.mem_of_getElem? (i := 128) (by decide +kernel), List.mem_of_getElem? (i := 817) (by decide +kernel), List.mem_of_getElem? (i := 818) (by decide +kernel)⟩
theorem lw_p31 : lw_okq (⟨"FirstPolls$View", "ruled", "(II)I"⟩, 14) := ⟨⟨by decide +kernel, by decide +kernel⟩, List.mem_of_getElem? (i := 171) (by decide +kernel), List.mem_of_getElem? (i := 850) (by decide +kernel), List.mem_of_getElem? (i := 851) (by decide +kernel)⟩
def lw_privs_2 : List (MethodName × Nat) := [(⟨"FirstPolls$Reader", "readClause", "()Z"⟩, 12), (⟨"FirstPolls$Reader", "kindHere", "()I"⟩, 12), (⟨"FirstPolls$Reader", "readNumber", "(III)Z"⟩, 12), (⟨"FirstPolls$Reader", "numberHere", "()I"⟩, 12), (⟨"FirstPolls$Reader", "takes", "(I)Z"⟩, 12), (⟨"FirstPolls$Reader", "readPhrase", "(III)Z"⟩, 12), (⟨"FirstPolls$Reader", "readLevel", "(II)Z"⟩, 12), (⟨"FirstPolls$Reader", "readPlain", "(I)Z"⟩, 12), (⟨"FirstPolls$Reader", "readBracket", "(III)Z"⟩, 12), (⟨"FirstPolls$Reader", "readLeaf", "(II)Z"⟩, 12), (⟨"FirstPolls$Reader", "readCompared", "(I)Z"⟩, 12), (⟨"FirstPolls$Reader", "readPart", "(I)Z"⟩, 12), (⟨"FirstPolls$Reader", "joinAt", "(I)I"⟩, 12), (⟨"FirstPolls$Reader", "readJoined", "(III)Z"⟩, 12), (⟨"FirstPolls$Reader", "startHere", "()I"⟩, 12), (⟨"FirstPolls$View", "ruled", "(II)I"⟩, 14)]
theorem lw_r2 : ∀ q ∈ lw_privs_2, lw_okq q := List.forall_mem_cons.mpr ⟨lw_p16, List.forall_mem_cons.mpr ⟨lw_p17, List.forall_mem_cons.mpr ⟨lw_p18, List.forall_mem_cons.mpr ⟨lw_p19, List.forall_mem_cons.mpr ⟨lw_p20, List.forall_mem_cons.mpr ⟨lw_p21, List.forall_mem_cons.mpr ⟨lw_p22, List.forall_mem_cons.mpr ⟨lw_p23, List.forall_mem_cons.mpr ⟨lw_p24, List.forall_mem_cons.mpr ⟨lw_p25, List.forall_mem_cons.mpr ⟨lw_p26, List.forall_mem_cons.mpr ⟨lw_p27, List.forall_mem_cons.mpr ⟨lw_p28, List.forall_mem_cons.mpr ⟨lw_p29, List.forall_mem_cons.mpr ⟨lw_p30, List.forall_mem_cons.mpr ⟨lw_p31, fun _ h => absurd h List.not_mem_nil⟩⟩⟩⟩⟩⟩⟩⟩⟩⟩⟩⟩⟩⟩⟩⟩
theorem lw_p32 : lw_okq (⟨"FirstPolls$Siting", "manyWishes", "()I"⟩, 12) := ⟨⟨by decide +kernel, by decide +kernel⟩, List.mem_of_getElem? (i := 311) (by decide +kernel), List.mem_of_getElem? (i := 902) (by decide +kernel), List.mem_of_getElem? (i := 903) (by decide +kernel)⟩
theorem lw_p33 : lw_okq (⟨"FirstPolls$Siting", "allWishes", "()I"⟩, 12) := ⟨⟨by decide +kernel, by decide +kernel⟩, List.mem_of_getElem? (i := 311) (by decide +kernel), List.mem_of_getElem? (i := 913) (by decide +kernel), List.mem_of_getElem? (i := 914) (by decide +kernel)⟩
theorem lw_p34 : lw_okq (⟨"FirstPolls$Siting", "leadOne", "(II)J"⟩, 12) := ⟨⟨by decide +kernel, by decide +kernel⟩, List.mem_of_getElem? (i := 311) (by decide +kernel), List.mem_of_getElem? (i := 922) (by decide +kernel), List.mem_of_getElem? (i := 923) (by decide +kernel)⟩
theorem lw_p35 : lw_okq (⟨"FirstPolls$Siting", "digitOf", "(I)I"⟩, 12) := ⟨⟨by decide +kernel, by decide +kernel⟩, List.mem_of_getElem? (i := 311) (by decide +kernel), List.mem_of_getElem? (i := 932) (by decide +kernel), List.mem_of_getElem? (i := 933) (by decide +kernel)⟩
theorem lw_p36 : lw_okq (⟨"FirstPolls$Siting", "leadAll", "(II)V"⟩, 12) := ⟨⟨by decide +kernel, by decide +kernel⟩, List.mem_of_getElem? (i := 311) (by decide +kernel), List.mem_of_getElem? (i := 938) (by decide +kernel), List.mem_of_getElem? (i := 939) (by decide +kernel)⟩
theorem lw_p37 : lw_okq (⟨"FirstPolls$Siting", "keepLatest", "(J)I"⟩, 12) := ⟨⟨by decide +kernel, by decide +kernel⟩, List.mem_of_getElem? (i := 311) (by decide +kernel), List.mem_of_getElem? (i := 950) (by decide +kernel), List.mem_of_getElem? (i := 951) (by decide +kernel)⟩
theorem lw_p38 : lw_okq (⟨"FirstPolls$Siting", "leastOfAll", "(I)J"⟩, 12) := ⟨⟨by decide +kernel, by decide +kernel⟩, List.mem_of_getElem? (i := 311) (by decide +kernel), List.mem_of_getElem? (i := 956) (by decide +kernel), List.mem_of_getElem? (i := 957) (by decide +kernel)⟩
theorem lw_p39 : lw_okq (⟨"FirstPolls$Siting", "leastBy", "(III)J"⟩, 12) := ⟨⟨by decide +kernel, by decide +kernel⟩, List.mem_of_getElem? (i := 311) (by decide +kernel), List.mem_of_getElem? (i := 960) (by decide +kernel), List.mem_of_getElem? (i := 961) (by decide +kernel)⟩
theorem lw_p40 : lw_okq (⟨"FirstPolls$Siting", "fill", "(I)V"⟩, 12) := ⟨⟨by decide +kernel, by decide +kernel⟩, List.mem_of_getElem? (i := 311) (by decide +kernel), List.mem_of_getElem? (i := 967) (by decide +kernel), List.mem_of_getElem? (i := 968) (by decide +kernel)⟩
theorem lw_p41 : lw_okq (⟨"FirstPolls$Siting", "leastBelow", "(III)J"⟩, 12) := ⟨⟨by decide +kernel, by decide +kernel⟩, List.mem_of_getElem? (i := 311) (by decide +kernel), List.mem_of_getElem? (i := 971) (by decide +kernel), List.mem_of_getElem? (i := 972) (by decide +kernel)⟩
theorem lw_p42 : lw_okq (⟨"FirstPolls$Siting", "letIn", "(I)V"⟩, 12) := ⟨⟨by decide +kernel, by decide +kernel⟩, List.mem_of_getElem? (i := 311) (by decide +kernel), List.mem_of_getElem? (i := 994) (by decide +kernel), List.mem_of_getElem? (i := 995) (by decide +kernel)⟩
theorem lw_p43 : lw_okq (⟨"FirstPolls$Land", "isHandedOf", "(III)Z"⟩, 14) := ⟨⟨by decide +kernel, by decide +kernel⟩, List.mem_of_getElem? (i := 29) (by decide +kernel), List.mem_of_getElem? (i := 1019) (by decide +kernel), List.mem_of_getElem? (i := 1020) (by decide +kernel)⟩
theorem lw_p44 : lw_okq (⟨"FirstPolls$Land", "isAhead", "(II)Z"⟩, 14) := ⟨⟨by decide +kernel, by decide +kernel⟩, List.mem_of_getElem? (i := 29) (by decide +kernel), List.mem_of_getElem? (i := 1039) (by decide +kernel), List.mem_of_getElem? (i := 1040) (by decide +kernel)⟩
theorem lw_p45 : lw_okq (⟨"FirstPolls$Tally", "readPapers", "()V"⟩, 15) := ⟨⟨by decide +kernel, by decide +kernel⟩, List.mem_of_getElem? (i := 237) (by decide +kernel), List.mem_of_getElem? (i := 1065) (by decide +kernel), List.mem_of_getElem? (i := 1066) (by decide +kernel)⟩
theorem lw_p46 : lw_okq (⟨"FirstPolls$Tally", "readHanded", "()V"⟩, 15) := ⟨⟨by decide +kernel, by decide +kernel⟩, List.mem_of_getElem? (i := 237) (by decide +kernel), List.mem_of_getElem? (i := 1079) (by decide +kernel), List.mem_of_getElem? (i := 1080) (by decide +kernel)⟩
theorem lw_p47 : lw_okq (⟨"FirstPolls$Tally", "readCounts", "()V"⟩, 15) := ⟨⟨by decide +kernel, by decide +kernel⟩, List.mem_of_getElem? (i := 237) (by decide +kernel), List.mem_of_getElem? (i := 1085) (by decide +kernel), List.mem_of_getElem? (i := 1086) (by decide +kernel)⟩
def lw_privs_3 : List (MethodName × Nat) := [(⟨"FirstPolls$Siting", "manyWishes", "()I"⟩, 12), (⟨"FirstPolls$Siting", "allWishes", "()I"⟩, 12), (⟨"FirstPolls$Siting", "leadOne", "(II)J"⟩, 12), (⟨"FirstPolls$Siting", "digitOf", "(I)I"⟩, 12), (⟨"FirstPolls$Siting", "leadAll", "(II)V"⟩, 12), (⟨"FirstPolls$Siting", "keepLatest", "(J)I"⟩, 12), (⟨"FirstPolls$Siting", "leastOfAll", "(I)J"⟩, 12), (⟨"FirstPolls$Siting", "leastBy", "(III)J"⟩, 12), (⟨"FirstPolls$Siting", "fill", "(I)V"⟩, 12), (⟨"FirstPolls$Siting", "leastBelow", "(III)J"⟩, 12), (⟨"FirstPolls$Siting", "letIn", "(I)V"⟩, 12), (⟨"FirstPolls$Land", "isHandedOf", "(III)Z"⟩, 14), (⟨"FirstPolls$Land", "isAhead", "(II)Z"⟩, 14), (⟨"FirstPolls$Tally", "readPapers", "()V"⟩, 15), (⟨"FirstPolls$Tally", "readHanded", "()V"⟩, 15), (⟨"FirstPolls$Tally", "readCounts", "()V"⟩, 15)]
theorem lw_r3 : ∀ q ∈ lw_privs_3, lw_okq q := List.forall_mem_cons.mpr ⟨lw_p32, List.forall_mem_cons.mpr ⟨lw_p33, List.forall_mem_cons.mpr ⟨lw_p34, List.forall_mem_cons.mpr ⟨lw_p35, List.forall_mem_cons.mpr ⟨lw_p36, List.forall_mem_cons.mpr ⟨lw_p37, List.forall_mem_cons.mpr ⟨lw_p38, List.forall_mem_cons.mpr ⟨lw_p39, List.forall_mem_cons.mpr ⟨lw_p40, List.forall_mem_cons.mpr ⟨lw_p41, List.forall_mem_cons.mpr ⟨lw_p42, List.forall_mem_cons.mpr ⟨lw_p43, List.forall_mem_cons.mpr ⟨lw_p44, List.forall_mem_cons.mpr ⟨lw_p45, List.forall_mem_cons.mpr ⟨lw_p46, List.forall_mem_cons.mpr ⟨lw_p47, fun _ h => absurd h List.not_mem_nil⟩⟩⟩⟩⟩⟩⟩⟩⟩⟩⟩⟩⟩⟩⟩⟩
theorem lw_p48 : lw_okq (⟨"FirstPolls$Tally", "isToldLast", "(I)Z"⟩, 15) := ⟨⟨by decide +kernel, by decide +kernel⟩, List.mem_of_getElem? (i := 237) (by decide +kernel), List.mem_of_getElem? (i := 1094) (by decide +kernel), List.mem_of_getElem? (i := 1095) (by decide +kernel)⟩
theorem lw_p49 : lw_okq (⟨"FirstPolls$Tally", "boothsInAll", "()I"⟩, 15) := ⟨⟨by decide +kernel, by decide +kernel⟩, List.mem_of_getElem? (i := 237) (by decide +kernel), List.mem_of_getElem? (i := 1098) (by decide +kernel), List.mem_of_getElem? (i := 1099) (by decide +kernel)⟩
theorem lw_p50 : lw_okq (⟨"FirstPolls$Tally", "askOrders", "(I)V"⟩, 15) := ⟨⟨by decide +kernel, by decide +kernel⟩, List.mem_of_getElem? (i := 237) (by decide +kernel), List.mem_of_getElem? (i := 1102) (by decide +kernel), List.mem_of_getElem? (i := 1103) (by decide +kernel)⟩
theorem lw_p51 : lw_okq (⟨"FirstPolls$Tally", "figure", "(II)I"⟩, 15) := ⟨⟨by decide +kernel, by decide +kernel⟩, List.mem_of_getElem? (i := 237) (by decide +kernel), List.mem_of_getElem? (i := 1107) (by decide +kernel), List.mem_of_getElem? (i := 1108) (by decide +kernel)⟩
theorem lw_p52 : lw_okq (⟨"FirstPolls$Tally", "lost", "(I)I"⟩, 15) := ⟨⟨by decide +kernel, by decide +kernel⟩, List.mem_of_getElem? (i := 237) (by decide +kernel), List.mem_of_getElem? (i := 1115) (by decide +kernel), List.mem_of_getElem? (i := 1116) (by decide +kernel)⟩
theorem lw_p53 : lw_okq (⟨"FirstPolls$Tally", "putIn", "(I)I"⟩, 15) := ⟨⟨by decide +kernel, by decide +kernel⟩, List.mem_of_getElem? (i := 237) (by decide +kernel), List.mem_of_getElem? (i := 1119) (by decide +kernel), List.mem_of_getElem? (i := 1120) (by decide +kernel)⟩
theorem lw_p54 : lw_okq (⟨"FirstPolls$Tally", "addValid", "()V"⟩, 15) := ⟨⟨by decide +kernel, by decide +kernel⟩, List.mem_of_getElem? (i := 237) (by decide +kernel), List.mem_of_getElem? (i := 1132) (by decide +kernel), List.mem_of_getElem? (i := 1133) (by decide +kernel)⟩
theorem lw_p55 : lw_okq (⟨"FirstPolls$Tally", "addTo", "(III)V"⟩, 15) := ⟨⟨by decide +kernel, by decide +kernel⟩, List.mem_of_getElem? (i := 237) (by decide +kernel), List.mem_of_getElem? (i := 1136) (by decide +kernel), List.mem_of_getElem? (i := 1137) (by decide +kernel)⟩
theorem lw_p56 : lw_okq (⟨"FirstPolls$Tally", "agrees", "(I)Z"⟩, 15) := ⟨⟨by decide +kernel, by decide +kernel⟩, List.mem_of_getElem? (i := 237) (by decide +kernel), List.mem_of_getElem? (i := 1149) (by decide +kernel), List.mem_of_getElem? (i := 1150) (by decide +kernel)⟩
theorem lw_p57 : lw_okq (⟨"FirstPolls$Tally", "isAgain", "(I)Z"⟩, 15) := ⟨⟨by decide +kernel, by decide +kernel⟩, List.mem_of_getElem? (i := 237) (by decide +kernel), List.mem_of_getElem? (i := 1153) (by decide +kernel), List.mem_of_getElem? (i := 1154) (by decide +kernel)⟩
theorem lw_p58 : lw_okq (⟨"FirstPolls$Tally", "validOf", "(II)I"⟩, 15) := ⟨⟨by decide +kernel, by decide +kernel⟩, List.mem_of_getElem? (i := 237) (by decide +kernel), List.mem_of_getElem? (i := 1157) (by decide +kernel), List.mem_of_getElem? (i := 1158) (by decide +kernel)⟩
theorem lw_p59 : lw_okq (⟨"FirstPolls$Tally", "mayStand", "(II)Z"⟩, 15) := ⟨⟨by decide +kernel, by decide +kernel⟩, List.mem_of_getElem? (i := 237) (by decide +kernel), List.mem_of_getElem? (i := 1177) (by decide +kernel), List.mem_of_getElem? (i := 1178) (by decide +kernel)⟩
theorem lw_p60 : lw_okq (⟨"FirstPolls$Tally", "addSymbols", "(I)I"⟩, 15) := ⟨⟨by decide +kernel, by decide +kernel⟩, List.mem_of_getElem? (i := 237) (by decide +kernel), List.mem_of_getElem? (i := 1203) (by decide +kernel), List.mem_of_getElem? (i := 1204) (by decide +kernel)⟩
theorem lw_p61 : lw_okq (⟨"FirstPolls$Tally", "areJoined", "(II)Z"⟩, 15) := ⟨⟨by decide +kernel, by decide +kernel⟩, List.mem_of_getElem? (i := 237) (by decide +kernel), List.mem_of_getElem? (i := 1211) (by decide +kernel), List.mem_of_getElem? (i := 1212) (by decide +kernel)⟩
theorem lw_p62 : lw_okq (⟨"FirstPolls$Tally", "sumByAllSeats", "()I"⟩, 15) := ⟨⟨by decide +kernel, by decide +kernel⟩, List.mem_of_getElem? (i := 237) (by decide +kernel), List.mem_of_getElem? (i := 1227) (by decide +kernel), List.mem_of_getElem? (i := 1228) (by decide +kernel)⟩
theorem lw_p63 : lw_okq (⟨"FirstPolls$Journey", "daysBetween", "(II)I"⟩, 10) := ⟨⟨by decide +kernel, by decide +kernel⟩, List.mem_of_getElem? (i := 355) (by decide +kernel), List.mem_of_getElem? (i := 1253) (by decide +kernel), List.mem_of_getElem? (i := 1254) (by decide +kernel)⟩
def lw_privs_4 : List (MethodName × Nat) := [(⟨"FirstPolls$Tally", "isToldLast", "(I)Z"⟩, 15), (⟨"FirstPolls$Tally", "boothsInAll", "()I"⟩, 15), (⟨"FirstPolls$Tally", "askOrders", "(I)V"⟩, 15), (⟨"FirstPolls$Tally", "figure", "(II)I"⟩, 15), (⟨"FirstPolls$Tally", "lost", "(I)I"⟩, 15), (⟨"FirstPolls$Tally", "putIn", "(I)I"⟩, 15), (⟨"FirstPolls$Tally", "addValid", "()V"⟩, 15), (⟨"FirstPolls$Tally", "addTo", "(III)V"⟩, 15), (⟨"FirstPolls$Tally", "agrees", "(I)Z"⟩, 15), (⟨"FirstPolls$Tally", "isAgain", "(I)Z"⟩, 15), (⟨"FirstPolls$Tally", "validOf", "(II)I"⟩, 15), (⟨"FirstPolls$Tally", "mayStand", "(II)Z"⟩, 15), (⟨"FirstPolls$Tally", "addSymbols", "(I)I"⟩, 15), (⟨"FirstPolls$Tally", "areJoined", "(II)Z"⟩, 15), (⟨"FirstPolls$Tally", "sumByAllSeats", "()I"⟩, 15), (⟨"FirstPolls$Journey", "daysBetween", "(II)I"⟩, 10)]
theorem lw_r4 : ∀ q ∈ lw_privs_4, lw_okq q := List.forall_mem_cons.mpr ⟨lw_p48, List.forall_mem_cons.mpr ⟨lw_p49, List.forall_mem_cons.mpr ⟨lw_p50, List.forall_mem_cons.mpr ⟨lw_p51, List.forall_mem_cons.mpr ⟨lw_p52, List.forall_mem_cons.mpr ⟨lw_p53, List.forall_mem_cons.mpr ⟨lw_p54, List.forall_mem_cons.mpr ⟨lw_p55, List.forall_mem_cons.mpr ⟨lw_p56, List.forall_mem_cons.mpr ⟨lw_p57, List.forall_mem_cons.mpr ⟨lw_p58, List.forall_mem_cons.mpr ⟨lw_p59, List.forall_mem_cons.mpr ⟨lw_p60, List.forall_mem_cons.mpr ⟨lw_p61, List.forall_mem_cons.mpr ⟨lw_p62, List.forall_mem_cons.mpr ⟨lw_p63, fun _ h => absurd h List.not_mem_nil⟩⟩⟩⟩⟩⟩⟩⟩⟩⟩⟩⟩⟩⟩⟩⟩
theorem lw_p64 : lw_okq (⟨"FirstPolls$Journey", "goOn", "(IIII)V"⟩, 10) := ⟨⟨by decide +kernel, by decide +kernel⟩, List.mem_of_getElem? (i := 355) (by decide +kernel), List.mem_of_getElem? (i := 1261) (by decide +kernel), List.mem_of_getElem? (i := 1262) (by decide +kernel)⟩
theorem lw_p65 : lw_okq (⟨"FirstPolls$Journey", "keepIfBetter", "(II)V"⟩, 10) := ⟨⟨by decide +kernel, by decide +kernel⟩, List.mem_of_getElem? (i := 355) (by decide +kernel), List.mem_of_getElem? (i := 1273) (by decide +kernel), List.mem_of_getElem? (i := 1274) (by decide +kernel)⟩
theorem lw_p66 : lw_okq (⟨"FirstPollsModel", "told", "(I)I"⟩, 62) := ⟨⟨by decide +kernel, by decide +kernel⟩, List.mem_of_getElem? (i := 1353) (by decide +kernel), List.mem_of_getElem? (i := 1554) (by decide +kernel), List.mem_of_getElem? (i := 1555) (by decide +kernel)⟩
theorem lw_p67 : lw_okq (⟨"FirstPollsModel", "isPlace", "(I)Z"⟩, 62) := ⟨⟨by decide +kernel, by decide +kernel⟩, List.mem_of_getElem? (i := 1353) (by decide +kernel), List.mem_of_getElem? (i := 1589) (by decide +kernel), List.mem_of_getElem? (i := 1590) (by decide +kernel)⟩
theorem lw_p68 : lw_okq (⟨"FirstPollsModel", "addName", "(IIIIII)V"⟩, 62) := ⟨⟨by decide +kernel, by decide +kernel⟩, List.mem_of_getElem? (i := 1353) (by decide +kernel), List.mem_of_getElem? (i := 1593) (by decide +kernel), List.mem_of_getElem? (i := 1594) (by decide +kernel)⟩
theorem lw_p69 : lw_okq (⟨"FirstPollsModel", "addFour", "(IIIII)V"⟩, 62) := ⟨⟨by decide +kernel, by decide +kernel⟩, List.mem_of_getElem? (i := 1353) (by decide +kernel), List.mem_of_getElem? (i := 1600) (by decide +kernel), List.mem_of_getElem? (i := 1601) (by decide +kernel)⟩
theorem lw_p70 : lw_okq (⟨"FirstPollsModel", "isName", "(I)Z"⟩, 62) := ⟨⟨by decide +kernel, by decide +kernel⟩, List.mem_of_getElem? (i := 1353) (by decide +kernel), List.mem_of_getElem? (i := 1612) (by decide +kernel), List.mem_of_getElem? (i := 1613) (by decide +kernel)⟩
theorem lw_p71 : lw_okq (⟨"FirstPollsModel", "whereOf", "(III)I"⟩, 62) := ⟨⟨by decide +kernel, by decide +kernel⟩, List.mem_of_getElem? (i := 1353) (by decide +kernel), List.mem_of_getElem? (i := 1629) (by decide +kernel), List.mem_of_getElem? (i := 1630) (by decide +kernel)⟩
theorem lw_p72 : lw_okq (⟨"FirstPollsModel", "hasMoved", "(III)Z"⟩, 62) := ⟨⟨by decide +kernel, by decide +kernel⟩, List.mem_of_getElem? (i := 1353) (by decide +kernel), List.mem_of_getElem? (i := 1633) (by decide +kernel), List.mem_of_getElem? (i := 1634) (by decide +kernel)⟩
theorem lw_p73 : lw_okq (⟨"FirstPollsModel", "findForce", "(I)V"⟩, 62) := ⟨⟨by decide +kernel, by decide +kernel⟩, List.mem_of_getElem? (i := 1353) (by decide +kernel), List.mem_of_getElem? (i := 1641) (by decide +kernel), List.mem_of_getElem? (i := 1642) (by decide +kernel)⟩
theorem lw_p74 : lw_okq (⟨"FirstPollsModel", "isOnNow", "(I)Z"⟩, 62) := ⟨⟨by decide +kernel, by decide +kernel⟩, List.mem_of_getElem? (i := 1353) (by decide +kernel), List.mem_of_getElem? (i := 1651) (by decide +kernel), List.mem_of_getElem? (i := 1652) (by decide +kernel)⟩
theorem lw_p75 : lw_okq (⟨"FirstPollsModel", "setName", "(I)V"⟩, 62) := ⟨⟨by decide +kernel, by decide +kernel⟩, List.mem_of_getElem? (i := 1353) (by decide +kernel), List.mem_of_getElem? (i := 1655) (by decide +kernel), List.mem_of_getElem? (i := 1656) (by decide +kernel)⟩
theorem lw_p76 : lw_okq (⟨"FirstPollsModel", "setNothing", "()V"⟩, 62) := ⟨⟨by decide +kernel, by decide +kernel⟩, List.mem_of_getElem? (i := 1353) (by decide +kernel), List.mem_of_getElem? (i := 1659) (by decide +kernel), List.mem_of_getElem? (i := 1660) (by decide +kernel)⟩
theorem lw_p77 : lw_okq (⟨"FirstPollsModel", "find", "(II)Z"⟩, 62) := ⟨⟨by decide +kernel, by decide +kernel⟩, List.mem_of_getElem? (i := 1353) (by decide +kernel), List.mem_of_getElem? (i := 1663) (by decide +kernel), List.mem_of_getElem? (i := 1664) (by decide +kernel)⟩
theorem lw_p78 : lw_okq (⟨"FirstPollsModel", "isSo", "(II)Z"⟩, 62) := ⟨⟨by decide +kernel, by decide +kernel⟩, List.mem_of_getElem? (i := 1353) (by decide +kernel), List.mem_of_getElem? (i := 1667) (by decide +kernel), List.mem_of_getElem? (i := 1668) (by decide +kernel)⟩
theorem lw_p79 : lw_okq (⟨"FirstPollsModel", "run", "(III)V"⟩, 62) := ⟨⟨by decide +kernel, by decide +kernel⟩, List.mem_of_getElem? (i := 1353) (by decide +kernel), List.mem_of_getElem? (i := 1671) (by decide +kernel), List.mem_of_getElem? (i := 1672) (by decide +kernel)⟩
def lw_privs_5 : List (MethodName × Nat) := [(⟨"FirstPolls$Journey", "goOn", "(IIII)V"⟩, 10), (⟨"FirstPolls$Journey", "keepIfBetter", "(II)V"⟩, 10), (⟨"FirstPollsModel", "told", "(I)I"⟩, 62), (⟨"FirstPollsModel", "isPlace", "(I)Z"⟩, 62), (⟨"FirstPollsModel", "addName", "(IIIIII)V"⟩, 62), (⟨"FirstPollsModel", "addFour", "(IIIII)V"⟩, 62), (⟨"FirstPollsModel", "isName", "(I)Z"⟩, 62), (⟨"FirstPollsModel", "whereOf", "(III)I"⟩, 62), (⟨"FirstPollsModel", "hasMoved", "(III)Z"⟩, 62), (⟨"FirstPollsModel", "findForce", "(I)V"⟩, 62), (⟨"FirstPollsModel", "isOnNow", "(I)Z"⟩, 62), (⟨"FirstPollsModel", "setName", "(I)V"⟩, 62), (⟨"FirstPollsModel", "setNothing", "()V"⟩, 62), (⟨"FirstPollsModel", "find", "(II)Z"⟩, 62), (⟨"FirstPollsModel", "isSo", "(II)Z"⟩, 62), (⟨"FirstPollsModel", "run", "(III)V"⟩, 62)]
theorem lw_r5 : ∀ q ∈ lw_privs_5, lw_okq q := List.forall_mem_cons.mpr ⟨lw_p64, List.forall_mem_cons.mpr ⟨lw_p65, List.forall_mem_cons.mpr ⟨lw_p66, List.forall_mem_cons.mpr ⟨lw_p67, List.forall_mem_cons.mpr ⟨lw_p68, List.forall_mem_cons.mpr ⟨lw_p69, List.forall_mem_cons.mpr ⟨lw_p70, List.forall_mem_cons.mpr ⟨lw_p71, List.forall_mem_cons.mpr ⟨lw_p72, List.forall_mem_cons.mpr ⟨lw_p73, List.forall_mem_cons.mpr ⟨lw_p74, List.forall_mem_cons.mpr ⟨lw_p75, List.forall_mem_cons.mpr ⟨lw_p76, List.forall_mem_cons.mpr ⟨lw_p77, List.forall_mem_cons.mpr ⟨lw_p78, List.forall_mem_cons.mpr ⟨lw_p79, fun _ h => absurd h List.not_mem_nil⟩⟩⟩⟩⟩⟩⟩⟩⟩⟩⟩⟩⟩⟩⟩⟩
theorem lw_p80 : lw_okq (⟨"FirstPollsModel", "reckon", "(IJJ)J"⟩, 62) := ⟨⟨by decide +kernel, by decide +kernel⟩, List.mem_of_getElem? (i := 1353) (by decide +kernel), List.mem_of_getElem? (i := 1675) (by decide +kernel), List.mem_of_getElem? (i := 1676) (by decide +kernel)⟩
theorem lw_p81 : lw_okq (⟨"FirstPollsModel", "knowBy", "(II)V"⟩, 62) := ⟨⟨by decide +kernel, by decide +kernel⟩, List.mem_of_getElem? (i := 1353) (by decide +kernel), List.mem_of_getElem? (i := 1685) (by decide +kernel), List.mem_of_getElem? (i := 1686) (by decide +kernel)⟩
theorem lw_p82 : lw_okq (⟨"FirstPollsModel", "likeOf", "(II)I"⟩, 62) := ⟨⟨by decide +kernel, by decide +kernel⟩, List.mem_of_getElem? (i := 1353) (by decide +kernel), List.mem_of_getElem? (i := 1693) (by decide +kernel), List.mem_of_getElem? (i := 1694) (by decide +kernel)⟩
theorem lw_p83 : lw_okq (⟨"FirstPollsModel", "isBarred", "(II)Z"⟩, 62) := ⟨⟨by decide +kernel, by decide +kernel⟩, List.mem_of_getElem? (i := 1353) (by decide +kernel), List.mem_of_getElem? (i := 1707) (by decide +kernel), List.mem_of_getElem? (i := 1708) (by decide +kernel)⟩
theorem lw_p84 : lw_okq (⟨"FirstPollsModel", "four", "(I)V"⟩, 62) := ⟨⟨by decide +kernel, by decide +kernel⟩, List.mem_of_getElem? (i := 1353) (by decide +kernel), List.mem_of_getElem? (i := 1715) (by decide +kernel), List.mem_of_getElem? (i := 1716) (by decide +kernel)⟩
theorem lw_p85 : lw_okq (⟨"FirstPollsModel", "begin", "()V"⟩, 62) := ⟨⟨by decide +kernel, by decide +kernel⟩, List.mem_of_getElem? (i := 1353) (by decide +kernel), List.mem_of_getElem? (i := 1731) (by decide +kernel), List.mem_of_getElem? (i := 1732) (by decide +kernel)⟩
theorem lw_p86 : lw_okq (⟨"FirstPollsModel", "next", "()V"⟩, 62) := ⟨⟨by decide +kernel, by decide +kernel⟩, List.mem_of_getElem? (i := 1353) (by decide +kernel), List.mem_of_getElem? (i := 1735) (by decide +kernel), List.mem_of_getElem? (i := 1736) (by decide +kernel)⟩
theorem lw_p87 : lw_okq (⟨"FirstPollsModel", "readClause", "()V"⟩, 62) := ⟨⟨by decide +kernel, by decide +kernel⟩, List.mem_of_getElem? (i := 1353) (by decide +kernel), List.mem_of_getElem? (i := 1751) (by decide +kernel), List.mem_of_getElem? (i := 1752) (by decide +kernel)⟩
theorem lw_p88 : lw_okq (⟨"FirstPollsModel", "headAt", "()I"⟩, 62) := ⟨⟨by decide +kernel, by decide +kernel⟩, List.mem_of_getElem? (i := 1353) (by decide +kernel), List.mem_of_getElem? (i := 1755) (by decide +kernel), List.mem_of_getElem? (i := 1756) (by decide +kernel)⟩
theorem lw_p89 : lw_okq (⟨"FirstPollsModel", "isWord", "(J)Z"⟩, 62) := ⟨⟨by decide +kernel, by decide +kernel⟩, List.mem_of_getElem? (i := 1353) (by decide +kernel), List.mem_of_getElem? (i := 1760) (by decide +kernel), List.mem_of_getElem? (i := 1761) (by decide +kernel)⟩
theorem lw_p90 : lw_okq (⟨"FirstPollsModel", "must", "(Z)V"⟩, 62) := ⟨⟨by decide +kernel, by decide +kernel⟩, List.mem_of_getElem? (i := 1353) (by decide +kernel), List.mem_of_getElem? (i := 1771) (by decide +kernel), List.mem_of_getElem? (i := 1772) (by decide +kernel)⟩
theorem lw_p91 : lw_okq (⟨"FirstPollsModel", "number", "(JJ)I"⟩, 62) := ⟨⟨by decide +kernel, by decide +kernel⟩, List.mem_of_getElem? (i := 1353) (by decide +kernel), List.mem_of_getElem? (i := 1776) (by decide +kernel), List.mem_of_getElem? (i := 1777) (by decide +kernel)⟩
theorem lw_p92 : lw_okq (⟨"FirstPollsModel", "readExpression", "(Z)V"⟩, 62) := ⟨⟨by decide +kernel, by decide +kernel⟩, List.mem_of_getElem? (i := 1353) (by decide +kernel), List.mem_of_getElem? (i := 1783) (by decide +kernel), List.mem_of_getElem? (i := 1784) (by decide +kernel)⟩
theorem lw_p93 : lw_okq (⟨"FirstPollsModel", "readPlain", "()I"⟩, 62) := ⟨⟨by decide +kernel, by decide +kernel⟩, List.mem_of_getElem? (i := 1353) (by decide +kernel), List.mem_of_getElem? (i := 1787) (by decide +kernel), List.mem_of_getElem? (i := 1788) (by decide +kernel)⟩
theorem lw_p94 : lw_okq (⟨"FirstPollsModel", "push", "(II)V"⟩, 62) := ⟨⟨by decide +kernel, by decide +kernel⟩, List.mem_of_getElem? (i := 1353) (by decide +kernel), List.mem_of_getElem? (i := 1792) (by decide +kernel), List.mem_of_getElem? (i := 1793) (by decide +kernel)⟩
theorem lw_p95 : lw_okq (⟨"FirstPollsModel", "isSign", "(I)Z"⟩, 62) := ⟨⟨by decide +kernel, by decide +kernel⟩, List.mem_of_getElem? (i := 1353) (by decide +kernel), List.mem_of_getElem? (i := 1796) (by decide +kernel), List.mem_of_getElem? (i := 1797) (by decide +kernel)⟩
def lw_privs_6 : List (MethodName × Nat) := [(⟨"FirstPollsModel", "reckon", "(IJJ)J"⟩, 62), (⟨"FirstPollsModel", "knowBy", "(II)V"⟩, 62), (⟨"FirstPollsModel", "likeOf", "(II)I"⟩, 62), (⟨"FirstPollsModel", "isBarred", "(II)Z"⟩, 62), (⟨"FirstPollsModel", "four", "(I)V"⟩, 62), (⟨"FirstPollsModel", "begin", "()V"⟩, 62), (⟨"FirstPollsModel", "next", "()V"⟩, 62), (⟨"FirstPollsModel", "readClause", "()V"⟩, 62), (⟨"FirstPollsModel", "headAt", "()I"⟩, 62), (⟨"FirstPollsModel", "isWord", "(J)Z"⟩, 62), (⟨"FirstPollsModel", "must", "(Z)V"⟩, 62), (⟨"FirstPollsModel", "number", "(JJ)I"⟩, 62), (⟨"FirstPollsModel", "readExpression", "(Z)V"⟩, 62), (⟨"FirstPollsModel", "readPlain", "()I"⟩, 62), (⟨"FirstPollsModel", "push", "(II)V"⟩, 62), (⟨"FirstPollsModel", "isSign", "(I)Z"⟩, 62)]
theorem lw_r6 : ∀ q ∈ lw_privs_6, lw_okq q := List.forall_mem_cons.mpr ⟨lw_p80, List.forall_mem_cons.mpr ⟨lw_p81, List.forall_mem_cons.mpr ⟨lw_p82, List.forall_mem_cons.mpr ⟨lw_p83, List.forall_mem_cons.mpr ⟨lw_p84, List.forall_mem_cons.mpr ⟨lw_p85, List.forall_mem_cons.mpr ⟨lw_p86, List.forall_mem_cons.mpr ⟨lw_p87, List.forall_mem_cons.mpr ⟨lw_p88, List.forall_mem_cons.mpr ⟨lw_p89, List.forall_mem_cons.mpr ⟨lw_p90, List.forall_mem_cons.mpr ⟨lw_p91, List.forall_mem_cons.mpr ⟨lw_p92, List.forall_mem_cons.mpr ⟨lw_p93, List.forall_mem_cons.mpr ⟨lw_p94, List.forall_mem_cons.mpr ⟨lw_p95, fun _ h => absurd h List.not_mem_nil⟩⟩⟩⟩⟩⟩⟩⟩⟩⟩⟩⟩⟩⟩⟩⟩
theorem lw_p96 : lw_okq (⟨"FirstPollsModel", "open", "(I)V"⟩, 62) := ⟨⟨by decide +kernel, by decide +kernel⟩, List.mem_of_getElem? (i := 1353) (by decide +kernel), List.mem_of_getElem? (i := 1800) (by decide +kernel), List.mem_of_getElem? (i := 1801) (by decide +kernel)⟩
theorem lw_p97 : lw_okq (⟨"FirstPollsModel", "plainAt", "()I"⟩, 62) := ⟨⟨by decide +kernel, by decide +kernel⟩, List.mem_of_getElem? (i := 1353) (by decide +kernel), List.mem_of_getElem? (i := 1804) (by decide +kernel), List.mem_of_getElem? (i := 1805) (by decide +kernel)⟩
theorem lw_p98 : lw_okq (⟨"FirstPollsModel", "leaf", "(ZII)V"⟩, 62) := ⟨⟨by decide +kernel, by decide +kernel⟩, List.mem_of_getElem? (i := 1353) (by decide +kernel), List.mem_of_getElem? (i := 1813) (by decide +kernel), List.mem_of_getElem? (i := 1814) (by decide +kernel)⟩
theorem lw_p99 : lw_okq (⟨"FirstPollsModel", "emit", "(II)V"⟩, 62) := ⟨⟨by decide +kernel, by decide +kernel⟩, List.mem_of_getElem? (i := 1353) (by decide +kernel), List.mem_of_getElem? (i := 1817) (by decide +kernel), List.mem_of_getElem? (i := 1818) (by decide +kernel)⟩
theorem lw_p100 : lw_okq (⟨"FirstPollsModel", "readPart", "()I"⟩, 62) := ⟨⟨by decide +kernel, by decide +kernel⟩, List.mem_of_getElem? (i := 1353) (by decide +kernel), List.mem_of_getElem? (i := 1821) (by decide +kernel), List.mem_of_getElem? (i := 1822) (by decide +kernel)⟩
theorem lw_p101 : lw_okq (⟨"FirstPollsModel", "partAt", "()I"⟩, 62) := ⟨⟨by decide +kernel, by decide +kernel⟩, List.mem_of_getElem? (i := 1353) (by decide +kernel), List.mem_of_getElem? (i := 1825) (by decide +kernel), List.mem_of_getElem? (i := 1826) (by decide +kernel)⟩
theorem lw_p102 : lw_okq (⟨"FirstPollsModel", "behindSum", "(Z)I"⟩, 62) := ⟨⟨by decide +kernel, by decide +kernel⟩, List.mem_of_getElem? (i := 1353) (by decide +kernel), List.mem_of_getElem? (i := 1841) (by decide +kernel), List.mem_of_getElem? (i := 1842) (by decide +kernel)⟩
theorem lw_p103 : lw_okq (⟨"FirstPollsModel", "settle", "(I)V"⟩, 62) := ⟨⟨by decide +kernel, by decide +kernel⟩, List.mem_of_getElem? (i := 1353) (by decide +kernel), List.mem_of_getElem? (i := 1848) (by decide +kernel), List.mem_of_getElem? (i := 1849) (by decide +kernel)⟩
theorem lw_p104 : lw_okq (⟨"FirstPollsModel", "inner", "()I"⟩, 62) := ⟨⟨by decide +kernel, by decide +kernel⟩, List.mem_of_getElem? (i := 1353) (by decide +kernel), List.mem_of_getElem? (i := 1852) (by decide +kernel), List.mem_of_getElem? (i := 1853) (by decide +kernel)⟩
theorem lw_p105 : lw_okq (⟨"FirstPollsModel", "isCompared", "()Z"⟩, 62) := ⟨⟨by decide +kernel, by decide +kernel⟩, List.mem_of_getElem? (i := 1353) (by decide +kernel), List.mem_of_getElem? (i := 1856) (by decide +kernel), List.mem_of_getElem? (i := 1857) (by decide +kernel)⟩
theorem lw_p106 : lw_okq (⟨"FirstPollsModel", "behindTest", "()I"⟩, 62) := ⟨⟨by decide +kernel, by decide +kernel⟩, List.mem_of_getElem? (i := 1353) (by decide +kernel), List.mem_of_getElem? (i := 1864) (by decide +kernel), List.mem_of_getElem? (i := 1865) (by decide +kernel)⟩
theorem lw_p107 : lw_okq (⟨"FirstPollsModel", "ruleOf", "(II)I"⟩, 62) := ⟨⟨by decide +kernel, by decide +kernel⟩, List.mem_of_getElem? (i := 1353) (by decide +kernel), List.mem_of_getElem? (i := 1879) (by decide +kernel), List.mem_of_getElem? (i := 1880) (by decide +kernel)⟩
theorem lw_p108 : lw_okq (⟨"FirstPollsModel", "setPlace", "(I)V"⟩, 62) := ⟨⟨by decide +kernel, by decide +kernel⟩, List.mem_of_getElem? (i := 1353) (by decide +kernel), List.mem_of_getElem? (i := 1883) (by decide +kernel), List.mem_of_getElem? (i := 1884) (by decide +kernel)⟩
theorem lw_p109 : lw_okq (⟨"FirstPollsModel", "areThere", "()Z"⟩, 62) := ⟨⟨by decide +kernel, by decide +kernel⟩, List.mem_of_getElem? (i := 1353) (by decide +kernel), List.mem_of_getElem? (i := 1899) (by decide +kernel), List.mem_of_getElem? (i := 1900) (by decide +kernel)⟩
theorem lw_p110 : lw_okq (⟨"FirstPollsModel", "setRules", "(II)V"⟩, 62) := ⟨⟨by decide +kernel, by decide +kernel⟩, List.mem_of_getElem? (i := 1353) (by decide +kernel), List.mem_of_getElem? (i := 1903) (by decide +kernel), List.mem_of_getElem? (i := 1904) (by decide +kernel)⟩
theorem lw_p111 : lw_okq (⟨"FirstPollsModel", "leastBy", "(I)I"⟩, 62) := ⟨⟨by decide +kernel, by decide +kernel⟩, List.mem_of_getElem? (i := 1353) (by decide +kernel), List.mem_of_getElem? (i := 1910) (by decide +kernel), List.mem_of_getElem? (i := 1911) (by decide +kernel)⟩
def lw_privs_7 : List (MethodName × Nat) := [(⟨"FirstPollsModel", "open", "(I)V"⟩, 62), (⟨"FirstPollsModel", "plainAt", "()I"⟩, 62), (⟨"FirstPollsModel", "leaf", "(ZII)V"⟩, 62), (⟨"FirstPollsModel", "emit", "(II)V"⟩, 62), (⟨"FirstPollsModel", "readPart", "()I"⟩, 62), (⟨"FirstPollsModel", "partAt", "()I"⟩, 62), (⟨"FirstPollsModel", "behindSum", "(Z)I"⟩, 62), (⟨"FirstPollsModel", "settle", "(I)V"⟩, 62), (⟨"FirstPollsModel", "inner", "()I"⟩, 62), (⟨"FirstPollsModel", "isCompared", "()Z"⟩, 62), (⟨"FirstPollsModel", "behindTest", "()I"⟩, 62), (⟨"FirstPollsModel", "ruleOf", "(II)I"⟩, 62), (⟨"FirstPollsModel", "setPlace", "(I)V"⟩, 62), (⟨"FirstPollsModel", "areThere", "()Z"⟩, 62), (⟨"FirstPollsModel", "setRules", "(II)V"⟩, 62), (⟨"FirstPollsModel", "leastBy", "(I)I"⟩, 62)]
theorem lw_r7 : ∀ q ∈ lw_privs_7, lw_okq q := List.forall_mem_cons.mpr ⟨lw_p96, List.forall_mem_cons.mpr ⟨lw_p97, List.forall_mem_cons.mpr ⟨lw_p98, List.forall_mem_cons.mpr ⟨lw_p99, List.forall_mem_cons.mpr ⟨lw_p100, List.forall_mem_cons.mpr ⟨lw_p101, List.forall_mem_cons.mpr ⟨lw_p102, List.forall_mem_cons.mpr ⟨lw_p103, List.forall_mem_cons.mpr ⟨lw_p104, List.forall_mem_cons.mpr ⟨lw_p105, List.forall_mem_cons.mpr ⟨lw_p106, List.forall_mem_cons.mpr ⟨lw_p107, List.forall_mem_cons.mpr ⟨lw_p108, List.forall_mem_cons.mpr ⟨lw_p109, List.forall_mem_cons.mpr ⟨lw_p110, List.forall_mem_cons.mpr ⟨lw_p111, fun _ h => absurd h List.not_mem_nil⟩⟩⟩⟩⟩⟩⟩⟩⟩⟩⟩⟩⟩⟩⟩⟩
theorem lw_p112 : lw_okq (⟨"FirstPollsModel", "mayLead", "(IIIII)Z"⟩, 62) := ⟨⟨by decide +kernel, by decide +kernel⟩, List.mem_of_getElem? (i := 1353) (by decide +kernel), List.mem_of_getElem? (i := 1914) (by decide +kernel), List.mem_of_getElem? (i := 1915) (by decide +kernel)⟩
theorem lw_p113 : lw_okq (⟨"FirstPollsModel", "away", "(II)I"⟩, 62) := ⟨⟨by decide +kernel, by decide +kernel⟩, List.mem_of_getElem? (i := 1353) (by decide +kernel), List.mem_of_getElem? (i := 1918) (by decide +kernel), List.mem_of_getElem? (i := 1919) (by decide +kernel)⟩
theorem lw_p114 : lw_okq (⟨"FirstPollsModel", "isBooth", "(I)Z"⟩, 62) := ⟨⟨by decide +kernel, by decide +kernel⟩, List.mem_of_getElem? (i := 1353) (by decide +kernel), List.mem_of_getElem? (i := 1939) (by decide +kernel), List.mem_of_getElem? (i := 1940) (by decide +kernel)⟩
theorem lw_p115 : lw_okq (⟨"FirstPollsModel", "isBox", "(I)Z"⟩, 62) := ⟨⟨by decide +kernel, by decide +kernel⟩, List.mem_of_getElem? (i := 1353) (by decide +kernel), List.mem_of_getElem? (i := 1947) (by decide +kernel), List.mem_of_getElem? (i := 1948) (by decide +kernel)⟩
theorem lw_p116 : lw_okq (⟨"FirstPollsModel", "brokenOf", "(II)I"⟩, 62) := ⟨⟨by decide +kernel, by decide +kernel⟩, List.mem_of_getElem? (i := 1353) (by decide +kernel), List.mem_of_getElem? (i := 1959) (by decide +kernel), List.mem_of_getElem? (i := 1960) (by decide +kernel)⟩
theorem lw_p117 : lw_okq (⟨"FirstPollsModel", "aheadOf", "(II)I"⟩, 62) := ⟨⟨by decide +kernel, by decide +kernel⟩, List.mem_of_getElem? (i := 1353) (by decide +kernel), List.mem_of_getElem? (i := 1963) (by decide +kernel), List.mem_of_getElem? (i := 1964) (by decide +kernel)⟩
theorem lw_p118 : lw_okq (⟨"FirstPollsModel", "putOf", "(I)I"⟩, 62) := ⟨⟨by decide +kernel, by decide +kernel⟩, List.mem_of_getElem? (i := 1353) (by decide +kernel), List.mem_of_getElem? (i := 1983) (by decide +kernel), List.mem_of_getElem? (i := 1984) (by decide +kernel)⟩
theorem lw_p119 : lw_okq (⟨"FirstPollsModel", "boothOf", "(I)I"⟩, 62) := ⟨⟨by decide +kernel, by decide +kernel⟩, List.mem_of_getElem? (i := 1353) (by decide +kernel), List.mem_of_getElem? (i := 1987) (by decide +kernel), List.mem_of_getElem? (i := 1988) (by decide +kernel)⟩
theorem lw_p120 : lw_okq (⟨"FirstPollsModel", "doesCount", "(I)Z"⟩, 62) := ⟨⟨by decide +kernel, by decide +kernel⟩, List.mem_of_getElem? (i := 1353) (by decide +kernel), List.mem_of_getElem? (i := 1991) (by decide +kernel), List.mem_of_getElem? (i := 1992) (by decide +kernel)⟩
theorem lw_p121 : lw_okq (⟨"FirstPollsModel", "paperOf", "(II)I"⟩, 62) := ⟨⟨by decide +kernel, by decide +kernel⟩, List.mem_of_getElem? (i := 1353) (by decide +kernel), List.mem_of_getElem? (i := 1995) (by decide +kernel), List.mem_of_getElem? (i := 1996) (by decide +kernel)⟩
theorem lw_p122 : lw_okq (⟨"FirstPollsModel", "isAgain", "(I)Z"⟩, 62) := ⟨⟨by decide +kernel, by decide +kernel⟩, List.mem_of_getElem? (i := 1353) (by decide +kernel), List.mem_of_getElem? (i := 1999) (by decide +kernel), List.mem_of_getElem? (i := 2000) (by decide +kernel)⟩
theorem lw_p123 : lw_okq (⟨"FirstPollsModel", "setBooth", "(I)V"⟩, 62) := ⟨⟨by decide +kernel, by decide +kernel⟩, List.mem_of_getElem? (i := 1353) (by decide +kernel), List.mem_of_getElem? (i := 2003) (by decide +kernel), List.mem_of_getElem? (i := 2004) (by decide +kernel)⟩
theorem lw_p124 : lw_okq (⟨"FirstPollsModel", "findValid", "(I)V"⟩, 62) := ⟨⟨by decide +kernel, by decide +kernel⟩, List.mem_of_getElem? (i := 1353) (by decide +kernel), List.mem_of_getElem? (i := 2007) (by decide +kernel), List.mem_of_getElem? (i := 2008) (by decide +kernel)⟩
theorem lw_p125 : lw_okq (⟨"FirstPollsModel", "addSeat", "(I)V"⟩, 62) := ⟨⟨by decide +kernel, by decide +kernel⟩, List.mem_of_getElem? (i := 1353) (by decide +kernel), List.mem_of_getElem? (i := 2019) (by decide +kernel), List.mem_of_getElem? (i := 2020) (by decide +kernel)⟩
theorem lw_p126 : lw_okq (⟨"FirstPollsModel", "seatOf", "(I)I"⟩, 62) := ⟨⟨by decide +kernel, by decide +kernel⟩, List.mem_of_getElem? (i := 1353) (by decide +kernel), List.mem_of_getElem? (i := 2023) (by decide +kernel), List.mem_of_getElem? (i := 2024) (by decide +kernel)⟩
theorem lw_p127 : lw_okq (⟨"FirstPollsModel", "findWinner", "(I)V"⟩, 62) := ⟨⟨by decide +kernel, by decide +kernel⟩, List.mem_of_getElem? (i := 1353) (by decide +kernel), List.mem_of_getElem? (i := 2027) (by decide +kernel), List.mem_of_getElem? (i := 2028) (by decide +kernel)⟩
def lw_privs_8 : List (MethodName × Nat) := [(⟨"FirstPollsModel", "mayLead", "(IIIII)Z"⟩, 62), (⟨"FirstPollsModel", "away", "(II)I"⟩, 62), (⟨"FirstPollsModel", "isBooth", "(I)Z"⟩, 62), (⟨"FirstPollsModel", "isBox", "(I)Z"⟩, 62), (⟨"FirstPollsModel", "brokenOf", "(II)I"⟩, 62), (⟨"FirstPollsModel", "aheadOf", "(II)I"⟩, 62), (⟨"FirstPollsModel", "putOf", "(I)I"⟩, 62), (⟨"FirstPollsModel", "boothOf", "(I)I"⟩, 62), (⟨"FirstPollsModel", "doesCount", "(I)Z"⟩, 62), (⟨"FirstPollsModel", "paperOf", "(II)I"⟩, 62), (⟨"FirstPollsModel", "isAgain", "(I)Z"⟩, 62), (⟨"FirstPollsModel", "setBooth", "(I)V"⟩, 62), (⟨"FirstPollsModel", "findValid", "(I)V"⟩, 62), (⟨"FirstPollsModel", "addSeat", "(I)V"⟩, 62), (⟨"FirstPollsModel", "seatOf", "(I)I"⟩, 62), (⟨"FirstPollsModel", "findWinner", "(I)V"⟩, 62)]
theorem lw_r8 : ∀ q ∈ lw_privs_8, lw_okq q := List.forall_mem_cons.mpr ⟨lw_p112, List.forall_mem_cons.mpr ⟨lw_p113, List.forall_mem_cons.mpr ⟨lw_p114, List.forall_mem_cons.mpr ⟨lw_p115, List.forall_mem_cons.mpr ⟨lw_p116, List.forall_mem_cons.mpr ⟨lw_p117, List.forall_mem_cons.mpr ⟨lw_p118, List.forall_mem_cons.mpr ⟨lw_p119, List.forall_mem_cons.mpr ⟨lw_p120, List.forall_mem_cons.mpr ⟨lw_p121, List.forall_mem_cons.mpr ⟨lw_p122, List.forall_mem_cons.mpr ⟨lw_p123, List.forall_mem_cons.mpr ⟨lw_p124, List.forall_mem_cons.mpr ⟨lw_p125, List.forall_mem_cons.mpr ⟨lw_p126, List.forall_mem_cons.mpr ⟨lw_p127, fun _ h => absurd h List.not_mem_nil⟩⟩⟩⟩⟩⟩⟩⟩⟩⟩⟩⟩⟩⟩⟩⟩
theorem lw_p128 : lw_okq (⟨"FirstPollsModel", "hangs", "(I)Z"⟩, 62) := ⟨⟨by decide +kernel, by decide +kernel⟩, List.mem_of_getElem? (i := 1353) (by decide +kernel), List.mem_of_getElem? (i := 2031) (by decide +kernel), List.mem_of_getElem? (i := 2032) (by decide +kernel)⟩
theorem lw_p129 : lw_okq (⟨"FirstPollsModel", "joinBooths", "(II)I"⟩, 62) := ⟨⟨by decide +kernel, by decide +kernel⟩, List.mem_of_getElem? (i := 1353) (by decide +kernel), List.mem_of_getElem? (i := 2039) (by decide +kernel), List.mem_of_getElem? (i := 2040) (by decide +kernel)⟩
theorem lw_p130 : lw_okq (⟨"FirstPollsModel", "isGone", "(II)Z"⟩, 62) := ⟨⟨by decide +kernel, by decide +kernel⟩, List.mem_of_getElem? (i := 1353) (by decide +kernel), List.mem_of_getElem? (i := 2060) (by decide +kernel), List.mem_of_getElem? (i := 2061) (by decide +kernel)⟩
theorem lw_p131 : lw_okq (⟨"FirstPollsModel", "pollOf", "(III)I"⟩, 62) := ⟨⟨by decide +kernel, by decide +kernel⟩, List.mem_of_getElem? (i := 1353) (by decide +kernel), List.mem_of_getElem? (i := 2064) (by decide +kernel), List.mem_of_getElem? (i := 2065) (by decide +kernel)⟩
theorem lw_p132 : lw_okq (⟨"FirstPollsModel", "daysOf", "(II)I"⟩, 62) := ⟨⟨by decide +kernel, by decide +kernel⟩, List.mem_of_getElem? (i := 1353) (by decide +kernel), List.mem_of_getElem? (i := 2068) (by decide +kernel), List.mem_of_getElem? (i := 2069) (by decide +kernel)⟩
theorem lw_p133 : lw_okq (⟨"FirstPollsModel", "keepWay", "(I)V"⟩, 62) := ⟨⟨by decide +kernel, by decide +kernel⟩, List.mem_of_getElem? (i := 1353) (by decide +kernel), List.mem_of_getElem? (i := 2072) (by decide +kernel), List.mem_of_getElem? (i := 2073) (by decide +kernel)⟩
theorem lw_p134 : lw_okq (⟨"FirstPollsModel", "addBooth", "(I)V"⟩, 62) := ⟨⟨by decide +kernel, by decide +kernel⟩, List.mem_of_getElem? (i := 1353) (by decide +kernel), List.mem_of_getElem? (i := 2096) (by decide +kernel), List.mem_of_getElem? (i := 2097) (by decide +kernel)⟩
def lw_privs_9 : List (MethodName × Nat) := [(⟨"FirstPollsModel", "hangs", "(I)Z"⟩, 62), (⟨"FirstPollsModel", "joinBooths", "(II)I"⟩, 62), (⟨"FirstPollsModel", "isGone", "(II)Z"⟩, 62), (⟨"FirstPollsModel", "pollOf", "(III)I"⟩, 62), (⟨"FirstPollsModel", "daysOf", "(II)I"⟩, 62), (⟨"FirstPollsModel", "keepWay", "(I)V"⟩, 62), (⟨"FirstPollsModel", "addBooth", "(I)V"⟩, 62)]
theorem lw_r9 : ∀ q ∈ lw_privs_9, lw_okq q := List.forall_mem_cons.mpr ⟨lw_p128, List.forall_mem_cons.mpr ⟨lw_p129, List.forall_mem_cons.mpr ⟨lw_p130, List.forall_mem_cons.mpr ⟨lw_p131, List.forall_mem_cons.mpr ⟨lw_p132, List.forall_mem_cons.mpr ⟨lw_p133, List.forall_mem_cons.mpr ⟨lw_p134, fun _ h => absurd h List.not_mem_nil⟩⟩⟩⟩⟩⟩⟩
def lw_privs : List (MethodName × Nat) := lw_privs_1 ++ (lw_privs_2 ++ (lw_privs_3 ++ (lw_privs_4 ++ (lw_privs_5 ++ (lw_privs_6 ++ (lw_privs_7 ++ (lw_privs_8 ++ (lw_privs_9))))))))
def lw_tbl : List Cond := k2_sels lw_privs ++ tables_1
theorem lw_privs_ok : ∀ q ∈ lw_privs, lw_okq q := by
  show ∀ q ∈ lw_privs_1 ++ (lw_privs_2 ++ (lw_privs_3 ++ (lw_privs_4 ++ (lw_privs_5 ++ (lw_privs_6 ++ (lw_privs_7 ++ (lw_privs_8 ++ (lw_privs_9)))))))), lw_okq q
  exact List.forall_mem_append.mpr ⟨lw_r1, List.forall_mem_append.mpr ⟨lw_r2, List.forall_mem_append.mpr ⟨lw_r3, List.forall_mem_append.mpr ⟨lw_r4, List.forall_mem_append.mpr ⟨lw_r5, List.forall_mem_append.mpr ⟨lw_r6, List.forall_mem_append.mpr ⟨lw_r7, List.forall_mem_append.mpr ⟨lw_r8, lw_r9⟩⟩⟩⟩⟩⟩⟩⟩
end
section
def RX0 : String := "FirstPolls$Asked"
def TX0 : u_T := fun k => match k with
  | 0 => ("FirstPolls$Asked", "steps", "LFirstPolls$Table;", true)
  | 1 => ("FirstPolls$Asked", "told", "[I", true)
  | _ => ("FirstPolls$Asked", "stack", "[I", true)
def tyX0 : Nat → FieldType := fun k => match k with
  | 0 => .object "FirstPolls$Table"
  | 1 => .array .int
  | _ => .array .int
abbrev wsX00 : List Cond := u_ws RX0 TX0 3
theorem nmX0 : ∀ a, a < 3 → ∀ b, b < 3 → a ≠ b → (TX0 a).2.1 ≠ (TX0 b).2.1 := by decide +kernel
theorem tyX0_ok : ∀ k, k < 3 → parseFieldDescriptor (TX0 k).2.2.1 = some (tyX0 k) := by decide +kernel
abbrev cX0_init : ByteArray := prog_2_method_1_code
def yX0_init : MethodName := ⟨RX0, "<init>", "(LFirstPolls$Table;)V"⟩
abbrev cX0_forget : ByteArray := prog_2_method_2_code
def yX0_forget : MethodName := ⟨RX0, "forget", "()V"⟩
abbrev cX0_tell : ByteArray := prog_2_method_3_code
def yX0_tell : MethodName := ⟨RX0, "tell", "(II)V"⟩
abbrev cX0_answer : ByteArray := prog_2_method_4_code
def yX0_answer : MethodName := ⟨RX0, "answer", "(I)I"⟩
abbrev cX0_toldOf : ByteArray := prog_2_method_5_code
def yX0_toldOf : MethodName := ⟨RX0, "toldOf", "(I)I"⟩
abbrev cX0_joined : ByteArray := prog_2_method_6_code
def yX0_joined : MethodName := ⟨RX0, "joined", "(IJJ)I"⟩
def RX1 : String := "FirstPolls$Journey"
def TX1 : u_T := fun k => match k with
  | 0 => ("FirstPolls$Journey", "land", "LFirstPolls$Land;", true)
  | 1 => ("FirstPolls$Journey", "wishes", "LFirstPolls$Wishes;", true)
  | 2 => ("FirstPolls$Journey", "ways", "[I", true)
  | 3 => ("FirstPolls$Journey", "earliest", "[I", true)
  | 4 => ("FirstPolls$Journey", "going", "[I", true)
  | 5 => ("FirstPolls$Journey", "polls", "[I", true)
  | 6 => ("FirstPolls$Journey", "bestGoing", "[I", true)
  | 7 => ("FirstPolls$Journey", "bestPolls", "[I", true)
  | 8 => ("FirstPolls$Journey", "bestLegs", "I", false)
  | _ => ("FirstPolls$Journey", "bestDay", "I", false)
def tyX1 : Nat → FieldType := fun k => match k with
  | 0 => .object "FirstPolls$Land"
  | 1 => .object "FirstPolls$Wishes"
  | 2 => .array .int
  | 3 => .array .int
  | 4 => .array .int
  | 5 => .array .int
  | 6 => .array .int
  | 7 => .array .int
  | 8 => .int
  | _ => .int
abbrev wsX10 : List Cond := u_ws RX1 TX1 10
theorem nmX1 : ∀ a, a < 10 → ∀ b, b < 10 → a ≠ b → (TX1 a).2.1 ≠ (TX1 b).2.1 := by decide +kernel
theorem tyX1_ok : ∀ k, k < 10 → parseFieldDescriptor (TX1 k).2.2.1 = some (tyX1 k) := by decide +kernel
abbrev cX1_init : ByteArray := prog_3_method_1_code
def yX1_init : MethodName := ⟨RX1, "<init>", "(LFirstPolls$Land;LFirstPolls$Wishes;)V"⟩
abbrev cX1_set : ByteArray := prog_3_method_2_code
def yX1_set : MethodName := ⟨RX1, "set", "(II)I"⟩
abbrev cX1_latest : ByteArray := prog_3_method_3_code
def yX1_latest : MethodName := ⟨RX1, "latest", "(II)I"⟩
abbrev cX1_daysBetween : ByteArray := prog_3_method_4_code
def yX1_daysBetween : MethodName := ⟨RX1, "daysBetween", "(II)I"⟩
abbrev cX1_goOn : ByteArray := prog_3_method_5_code
def yX1_goOn : MethodName := ⟨RX1, "goOn", "(IIII)V"⟩
abbrev cX1_keepIfBetter : ByteArray := prog_3_method_6_code
def yX1_keepIfBetter : MethodName := ⟨RX1, "keepIfBetter", "(II)V"⟩
def RX2 : String := "FirstPolls$Land"
def TX2 : u_T := fun k => match k with
  | 0 => ("FirstPolls$Land", "places", "LFirstPolls$Table;", true)
  | 1 => ("FirstPolls$Land", "names", "LFirstPolls$Table;", true)
  | 2 => ("FirstPolls$Land", "pairs", "LFirstPolls$Table;", true)
  | 3 => ("FirstPolls$Land", "texts", "LFirstPolls$Table;", true)
  | 4 => ("FirstPolls$Land", "clauses", "LFirstPolls$Table;", true)
  | 5 => ("FirstPolls$Land", "steps", "LFirstPolls$Table;", true)
  | 6 => ("FirstPolls$Land", "booths", "LFirstPolls$Table;", true)
  | 7 => ("FirstPolls$Land", "boxes", "LFirstPolls$Table;", true)
  | 8 => ("FirstPolls$Land", "handed", "LFirstPolls$Table;", true)
  | 9 => ("FirstPolls$Land", "papers", "LFirstPolls$Table;", true)
  | 10 => ("FirstPolls$Land", "counts", "LFirstPolls$Table;", true)
  | 11 => ("FirstPolls$Land", "standing", "[I", true)
  | 12 => ("FirstPolls$Land", "pace", "I", false)
  | _ => ("FirstPolls$Land", "rivers", "I", false)
def tyX2 : Nat → FieldType := fun k => match k with
  | 0 => .object "FirstPolls$Table"
  | 1 => .object "FirstPolls$Table"
  | 2 => .object "FirstPolls$Table"
  | 3 => .object "FirstPolls$Table"
  | 4 => .object "FirstPolls$Table"
  | 5 => .object "FirstPolls$Table"
  | 6 => .object "FirstPolls$Table"
  | 7 => .object "FirstPolls$Table"
  | 8 => .object "FirstPolls$Table"
  | 9 => .object "FirstPolls$Table"
  | 10 => .object "FirstPolls$Table"
  | 11 => .array .int
  | 12 => .int
  | _ => .int
abbrev wsX20 : List Cond := u_ws RX2 TX2 14
theorem nmX2 : ∀ a, a < 14 → ∀ b, b < 14 → a ≠ b → (TX2 a).2.1 ≠ (TX2 b).2.1 := by decide +kernel
theorem tyX2_ok : ∀ k, k < 14 → parseFieldDescriptor (TX2 k).2.2.1 = some (tyX2 k) := by decide +kernel
abbrev cX2_init : ByteArray := prog_4_method_1_code
def yX2_init : MethodName := ⟨RX2, "<init>", "()V"⟩
abbrev cX2_takeFrom : ByteArray := prog_4_method_2_code
def yX2_takeFrom : MethodName := ⟨RX2, "takeFrom", "(LFirstPolls$Land;)V"⟩
abbrev cX2_likeness : ByteArray := prog_4_method_3_code
def yX2_likeness : MethodName := ⟨RX2, "likeness", "(II)I"⟩
abbrev cX2_areBarred : ByteArray := prog_4_method_4_code
def yX2_areBarred : MethodName := ⟨RX2, "areBarred", "(II)Z"⟩
abbrev cX2_seatOfPlace : ByteArray := prog_4_method_5_code
def yX2_seatOfPlace : MethodName := ⟨RX2, "seatOfPlace", "(I)I"⟩
abbrev cX2_distance : ByteArray := prog_4_method_6_code
def yX2_distance : MethodName := ⟨RX2, "distance", "(II)I"⟩
abbrev cX2_latestHanded : ByteArray := prog_4_method_7_code
def yX2_latestHanded : MethodName := ⟨RX2, "latestHanded", "(III)I"⟩
abbrev cX2_firstBroken : ByteArray := prog_4_method_8_code
def yX2_firstBroken : MethodName := ⟨RX2, "firstBroken", "(II)I"⟩
abbrev cX2_handedAhead : ByteArray := prog_4_method_9_code
def yX2_handedAhead : MethodName := ⟨RX2, "handedAhead", "(II)I"⟩
abbrev cX2_hasOtherSeal : ByteArray := prog_4_method_10_code
def yX2_hasOtherSeal : MethodName := ⟨RX2, "hasOtherSeal", "(I)Z"⟩
abbrev cX2_isHandedOf : ByteArray := prog_4_method_11_code
def yX2_isHandedOf : MethodName := ⟨RX2, "isHandedOf", "(III)Z"⟩
abbrev cX2_isAhead : ByteArray := prog_4_method_12_code
def yX2_isAhead : MethodName := ⟨RX2, "isAhead", "(II)Z"⟩
abbrev cX2_boothOfTelling : ByteArray := prog_4_method_13_code
def yX2_boothOfTelling : MethodName := ⟨RX2, "boothOfTelling", "(I)I"⟩
abbrev cX2_tellingsOf : ByteArray := prog_4_method_14_code
def yX2_tellingsOf : MethodName := ⟨RX2, "tellingsOf", "(I)I"⟩
abbrev cX2_sumOfTellings : ByteArray := prog_4_method_15_code
def yX2_sumOfTellings : MethodName := ⟨RX2, "sumOfTellings", "(IZ)I"⟩
abbrev cX2_tellingAt : ByteArray := prog_4_method_16_code
def yX2_tellingAt : MethodName := ⟨RX2, "tellingAt", "(II)I"⟩
def RX3 : String := "FirstPolls$Reader"
def TX3 : u_T := fun k => match k with
  | 0 => ("FirstPolls$Reader", "land", "LFirstPolls$Land;", true)
  | 1 => ("FirstPolls$Reader", "tape", "[I", true)
  | 2 => ("FirstPolls$Reader", "length", "I", false)
  | 3 => ("FirstPolls$Reader", "fault", "I", false)
  | 4 => ("FirstPolls$Reader", "kinds", "[I", true)
  | 5 => ("FirstPolls$Reader", "numbers", "[I", true)
  | 6 => ("FirstPolls$Reader", "starts", "[I", true)
  | 7 => ("FirstPolls$Reader", "tokens", "I", false)
  | 8 => ("FirstPolls$Reader", "at", "I", false)
  | 9 => ("FirstPolls$Reader", "leaves", "I", false)
  | 10 => ("FirstPolls$Reader", "firstClause", "I", false)
  | _ => ("FirstPolls$Reader", "firstStep", "I", false)
def tyX3 : Nat → FieldType := fun k => match k with
  | 0 => .object "FirstPolls$Land"
  | 1 => .array .int
  | 2 => .int
  | 3 => .int
  | 4 => .array .int
  | 5 => .array .int
  | 6 => .array .int
  | 7 => .int
  | 8 => .int
  | 9 => .int
  | 10 => .int
  | _ => .int
abbrev wsX30 : List Cond := u_ws RX3 TX3 12
theorem nmX3 : ∀ a, a < 12 → ∀ b, b < 12 → a ≠ b → (TX3 a).2.1 ≠ (TX3 b).2.1 := by decide +kernel
theorem tyX3_ok : ∀ k, k < 12 → parseFieldDescriptor (TX3 k).2.2.1 = some (tyX3 k) := by decide +kernel
abbrev cX3_init : ByteArray := prog_5_method_1_code
def yX3_init : MethodName := ⟨RX3, "<init>", "(LFirstPolls$Land;)V"⟩
abbrev cX3_bytes : ByteArray := prog_5_method_2_code
def yX3_bytes : MethodName := ⟨RX3, "bytes", "()I"⟩
abbrev cX3_faultAt : ByteArray := prog_5_method_3_code
def yX3_faultAt : MethodName := ⟨RX3, "faultAt", "()I"⟩
abbrev cX3_hasRoom : ByteArray := prog_5_method_4_code
def yX3_hasRoom : MethodName := ⟨RX3, "hasRoom", "()Z"⟩
abbrev cX3_write : ByteArray := prog_5_method_5_code
def yX3_write : MethodName := ⟨RX3, "write", "(I)V"⟩
abbrev cX3_keepFirst : ByteArray := prog_5_method_6_code
def yX3_keepFirst : MethodName := ⟨RX3, "keepFirst", "(I)Z"⟩
abbrev cX3_byteAt : ByteArray := prog_5_method_7_code
def yX3_byteAt : MethodName := ⟨RX3, "byteAt", "(I)I"⟩
abbrev cX3_lettersAt : ByteArray := prog_5_method_8_code
def yX3_lettersAt : MethodName := ⟨RX3, "lettersAt", "(I)I"⟩
abbrev cX3_open : ByteArray := prog_5_method_9_code
def yX3_open : MethodName := ⟨RX3, "open", "()V"⟩
abbrev cX3_close : ByteArray := prog_5_method_10_code
def yX3_close : MethodName := ⟨RX3, "close", "(ZI)V"⟩
abbrev cX3_splitTokens : ByteArray := prog_5_method_11_code
def yX3_splitTokens : MethodName := ⟨RX3, "splitTokens", "()V"⟩
abbrev cX3_runEnd : ByteArray := prog_5_method_12_code
def yX3_runEnd : MethodName := ⟨RX3, "runEnd", "(I)I"⟩
abbrev cX3_kindOf : ByteArray := prog_5_method_13_code
def yX3_kindOf : MethodName := ⟨RX3, "kindOf", "(II)I"⟩
abbrev cX3_isWord : ByteArray := prog_5_method_14_code
def yX3_isWord : MethodName := ⟨RX3, "isWord", "(III)Z"⟩
abbrev cX3_numberOf : ByteArray := prog_5_method_15_code
def yX3_numberOf : MethodName := ⟨RX3, "numberOf", "(II)I"⟩
abbrev cX3_takes : ByteArray := prog_5_method_16_code
def yX3_takes : MethodName := ⟨RX3, "takes", "(I)Z"⟩
abbrev cX3_kindHere : ByteArray := prog_5_method_17_code
def yX3_kindHere : MethodName := ⟨RX3, "kindHere", "()I"⟩
abbrev cX3_numberHere : ByteArray := prog_5_method_18_code
def yX3_numberHere : MethodName := ⟨RX3, "numberHere", "()I"⟩
abbrev cX3_startHere : ByteArray := prog_5_method_19_code
def yX3_startHere : MethodName := ⟨RX3, "startHere", "()I"⟩
abbrev cX3_readClauses : ByteArray := prog_5_method_20_code
def yX3_readClauses : MethodName := ⟨RX3, "readClauses", "()Z"⟩
abbrev cX3_readClause : ByteArray := prog_5_method_21_code
def yX3_readClause : MethodName := ⟨RX3, "readClause", "()Z"⟩
abbrev cX3_readNumber : ByteArray := prog_5_method_22_code
def yX3_readNumber : MethodName := ⟨RX3, "readNumber", "(III)Z"⟩
abbrev cX3_readPhrase : ByteArray := prog_5_method_23_code
def yX3_readPhrase : MethodName := ⟨RX3, "readPhrase", "(III)Z"⟩
abbrev cX3_readLevel : ByteArray := prog_5_method_24_code
def yX3_readLevel : MethodName := ⟨RX3, "readLevel", "(II)Z"⟩
abbrev cX3_joinAt : ByteArray := prog_5_method_25_code
def yX3_joinAt : MethodName := ⟨RX3, "joinAt", "(I)I"⟩
abbrev cX3_readJoined : ByteArray := prog_5_method_26_code
def yX3_readJoined : MethodName := ⟨RX3, "readJoined", "(III)Z"⟩
abbrev cX3_readPlain : ByteArray := prog_5_method_27_code
def yX3_readPlain : MethodName := ⟨RX3, "readPlain", "(I)Z"⟩
abbrev cX3_readCompared : ByteArray := prog_5_method_28_code
def yX3_readCompared : MethodName := ⟨RX3, "readCompared", "(I)Z"⟩
abbrev cX3_readPart : ByteArray := prog_5_method_29_code
def yX3_readPart : MethodName := ⟨RX3, "readPart", "(I)Z"⟩
abbrev cX3_readBracket : ByteArray := prog_5_method_30_code
def yX3_readBracket : MethodName := ⟨RX3, "readBracket", "(III)Z"⟩
abbrev cX3_readLeaf : ByteArray := prog_5_method_31_code
def yX3_readLeaf : MethodName := ⟨RX3, "readLeaf", "(II)Z"⟩
def RX4 : String := "FirstPolls$Siting"
def TX4 : u_T := fun k => match k with
  | 0 => ("FirstPolls$Siting", "land", "LFirstPolls$Land;", true)
  | 1 => ("FirstPolls$Siting", "view", "LFirstPolls$View;", true)
  | 2 => ("FirstPolls$Siting", "wishes", "LFirstPolls$Wishes;", true)
  | 3 => ("FirstPolls$Siting", "alone", "[J", true)
  | 4 => ("FirstPolls$Siting", "least", "[J", true)
  | 5 => ("FirstPolls$Siting", "judged", "[J", true)
  | 6 => ("FirstPolls$Siting", "latestRow", "[I", true)
  | 7 => ("FirstPolls$Siting", "latestSize", "I", false)
  | 8 => ("FirstPolls$Siting", "latestWays", "I", false)
  | 9 => ("FirstPolls$Siting", "names", "[I", true)
  | 10 => ("FirstPolls$Siting", "fars", "[I", true)
  | _ => ("FirstPolls$Siting", "leads", "[J", true)
def tyX4 : Nat → FieldType := fun k => match k with
  | 0 => .object "FirstPolls$Land"
  | 1 => .object "FirstPolls$View"
  | 2 => .object "FirstPolls$Wishes"
  | 3 => .array .long
  | 4 => .array .long
  | 5 => .array .long
  | 6 => .array .int
  | 7 => .int
  | 8 => .int
  | 9 => .array .int
  | 10 => .array .int
  | _ => .array .long
abbrev wsX40 : List Cond := u_ws RX4 TX4 12
theorem nmX4 : ∀ a, a < 12 → ∀ b, b < 12 → a ≠ b → (TX4 a).2.1 ≠ (TX4 b).2.1 := by decide +kernel
theorem tyX4_ok : ∀ k, k < 12 → parseFieldDescriptor (TX4 k).2.2.1 = some (tyX4 k) := by decide +kernel
abbrev cX4_init : ByteArray := prog_6_method_1_code
def yX4_init : MethodName := ⟨RX4, "<init>", "(LFirstPolls$Land;LFirstPolls$View;LFirstPolls$Wishes;)V"⟩
abbrev cX4_choose : ByteArray := prog_6_method_2_code
def yX4_choose : MethodName := ⟨RX4, "choose", "()I"⟩
abbrev cX4_waysOf : ByteArray := prog_6_method_3_code
def yX4_waysOf : MethodName := ⟨RX4, "waysOf", "(I)I"⟩
abbrev cX4_latest : ByteArray := prog_6_method_4_code
def yX4_latest : MethodName := ⟨RX4, "latest", "(I)I"⟩
abbrev cX4_keepLatest : ByteArray := prog_6_method_5_code
def yX4_keepLatest : MethodName := ⟨RX4, "keepLatest", "(J)I"⟩
abbrev cX4_manyWishes : ByteArray := prog_6_method_6_code
def yX4_manyWishes : MethodName := ⟨RX4, "manyWishes", "()I"⟩
abbrev cX4_allWishes : ByteArray := prog_6_method_7_code
def yX4_allWishes : MethodName := ⟨RX4, "allWishes", "()I"⟩
abbrev cX4_digitOf : ByteArray := prog_6_method_8_code
def yX4_digitOf : MethodName := ⟨RX4, "digitOf", "(I)I"⟩
abbrev cX4_leadAlone : ByteArray := prog_6_method_9_code
def yX4_leadAlone : MethodName := ⟨RX4, "leadAlone", "()V"⟩
abbrev cX4_leadOne : ByteArray := prog_6_method_10_code
def yX4_leadOne : MethodName := ⟨RX4, "leadOne", "(II)J"⟩
abbrev cX4_leadAll : ByteArray := prog_6_method_11_code
def yX4_leadAll : MethodName := ⟨RX4, "leadAll", "(II)V"⟩
abbrev cX4_leastOfAll : ByteArray := prog_6_method_12_code
def yX4_leastOfAll : MethodName := ⟨RX4, "leastOfAll", "(I)J"⟩
abbrev cX4_fill : ByteArray := prog_6_method_13_code
def yX4_fill : MethodName := ⟨RX4, "fill", "(I)V"⟩
abbrev cX4_placeOf : ByteArray := prog_6_method_14_code
def yX4_placeOf : MethodName := ⟨RX4, "placeOf", "(III)I"⟩
abbrev cX4_leastBelow : ByteArray := prog_6_method_15_code
def yX4_leastBelow : MethodName := ⟨RX4, "leastBelow", "(III)J"⟩
abbrev cX4_leastBy : ByteArray := prog_6_method_16_code
def yX4_leastBy : MethodName := ⟨RX4, "leastBy", "(III)J"⟩
abbrev cX4_letIn : ByteArray := prog_6_method_17_code
def yX4_letIn : MethodName := ⟨RX4, "letIn", "(I)V"⟩
def RX5 : String := "FirstPolls$Table"
def TX5 : u_T := fun k => match k with
  | 0 => ("FirstPolls$Table", "width", "I", true)
  | 1 => ("FirstPolls$Table", "most", "I", true)
  | 2 => ("FirstPolls$Table", "cells", "[I", true)
  | _ => ("FirstPolls$Table", "size", "I", false)
def tyX5 : Nat → FieldType := fun k => match k with
  | 0 => .int
  | 1 => .int
  | 2 => .array .int
  | _ => .int
abbrev wsX50 : List Cond := u_ws RX5 TX5 4
theorem nmX5 : ∀ a, a < 4 → ∀ b, b < 4 → a ≠ b → (TX5 a).2.1 ≠ (TX5 b).2.1 := by decide +kernel
theorem tyX5_ok : ∀ k, k < 4 → parseFieldDescriptor (TX5 k).2.2.1 = some (tyX5 k) := by decide +kernel
abbrev cX5_init : ByteArray := prog_7_method_1_code
def yX5_init : MethodName := ⟨RX5, "<init>", "(II)V"⟩
abbrev cX5_size : ByteArray := prog_7_method_2_code
def yX5_size : MethodName := ⟨RX5, "size", "()I"⟩
abbrev cX5_has : ByteArray := prog_7_method_3_code
def yX5_has : MethodName := ⟨RX5, "has", "(I)Z"⟩
abbrev cX5_hasRoomFor : ByteArray := prog_7_method_4_code
def yX5_hasRoomFor : MethodName := ⟨RX5, "hasRoomFor", "(I)Z"⟩
abbrev cX5_add : ByteArray := prog_7_method_5_code
def yX5_add : MethodName := ⟨RX5, "add", "()I"⟩
abbrev cX5_get : ByteArray := prog_7_method_6_code
def yX5_get : MethodName := ⟨RX5, "get", "(II)I"⟩
abbrev cX5_set : ByteArray := prog_7_method_7_code
def yX5_set : MethodName := ⟨RX5, "set", "(III)V"⟩
abbrev cX5_push : ByteArray := prog_7_method_8_code
def yX5_push : MethodName := ⟨RX5, "push", "(I)I"⟩
abbrev cX5_cutTo : ByteArray := prog_7_method_9_code
def yX5_cutTo : MethodName := ⟨RX5, "cutTo", "(I)V"⟩
abbrev cX5_takeFrom : ByteArray := prog_7_method_10_code
def yX5_takeFrom : MethodName := ⟨RX5, "takeFrom", "(LFirstPolls$Table;)V"⟩
def RX6 : String := "FirstPolls$Tally"
def TX6 : u_T := fun k => match k with
  | 0 => ("FirstPolls$Tally", "land", "LFirstPolls$Land;", true)
  | 1 => ("FirstPolls$Tally", "view", "LFirstPolls$View;", true)
  | 2 => ("FirstPolls$Tally", "reckonedIn", "I", false)
  | 3 => ("FirstPolls$Tally", "figures", "[I", true)
  | 4 => ("FirstPolls$Tally", "put", "[I", true)
  | 5 => ("FirstPolls$Tally", "sealBroken", "[Z", true)
  | 6 => ("FirstPolls$Tally", "again", "[Z", true)
  | 7 => ("FirstPolls$Tally", "voidMarks", "[I", true)
  | 8 => ("FirstPolls$Tally", "valid", "[I", true)
  | 9 => ("FirstPolls$Tally", "seatSums", "[I", true)
  | 10 => ("FirstPolls$Tally", "stands", "[Z", true)
  | 11 => ("FirstPolls$Tally", "toldLast", "[I", true)
  | 12 => ("FirstPolls$Tally", "groups", "[I", true)
  | 13 => ("FirstPolls$Tally", "lastWhole", "I", false)
  | _ => ("FirstPolls$Tally", "sums", "[I", true)
def tyX6 : Nat → FieldType := fun k => match k with
  | 0 => .object "FirstPolls$Land"
  | 1 => .object "FirstPolls$View"
  | 2 => .int
  | 3 => .array .int
  | 4 => .array .int
  | 5 => .array .boolean
  | 6 => .array .boolean
  | 7 => .array .int
  | 8 => .array .int
  | 9 => .array .int
  | 10 => .array .boolean
  | 11 => .array .int
  | 12 => .array .int
  | 13 => .int
  | _ => .array .int
abbrev wsX60 : List Cond := u_ws RX6 TX6 15
theorem nmX6 : ∀ a, a < 15 → ∀ b, b < 15 → a ≠ b → (TX6 a).2.1 ≠ (TX6 b).2.1 := by decide +kernel
theorem tyX6_ok : ∀ k, k < 15 → parseFieldDescriptor (TX6 k).2.2.1 = some (tyX6 k) := by decide +kernel
abbrev cX6_init : ByteArray := prog_8_method_1_code
def yX6_init : MethodName := ⟨RX6, "<init>", "(LFirstPolls$Land;LFirstPolls$View;)V"⟩
abbrev cX6_reckon : ByteArray := prog_8_method_2_code
def yX6_reckon : MethodName := ⟨RX6, "reckon", "()V"⟩
abbrev cX6_boothsInAll : ByteArray := prog_8_method_3_code
def yX6_boothsInAll : MethodName := ⟨RX6, "boothsInAll", "()I"⟩
abbrev cX6_isBooth : ByteArray := prog_8_method_4_code
def yX6_isBooth : MethodName := ⟨RX6, "isBooth", "(I)Z"⟩
abbrev cX6_readPapers : ByteArray := prog_8_method_5_code
def yX6_readPapers : MethodName := ⟨RX6, "readPapers", "()V"⟩
abbrev cX6_readHanded : ByteArray := prog_8_method_6_code
def yX6_readHanded : MethodName := ⟨RX6, "readHanded", "()V"⟩
abbrev cX6_readCounts : ByteArray := prog_8_method_7_code
def yX6_readCounts : MethodName := ⟨RX6, "readCounts", "()V"⟩
abbrev cX6_isToldLast : ByteArray := prog_8_method_8_code
def yX6_isToldLast : MethodName := ⟨RX6, "isToldLast", "(I)Z"⟩
abbrev cX6_askOrders : ByteArray := prog_8_method_9_code
def yX6_askOrders : MethodName := ⟨RX6, "askOrders", "(I)V"⟩
abbrev cX6_addValid : ByteArray := prog_8_method_10_code
def yX6_addValid : MethodName := ⟨RX6, "addValid", "()V"⟩
abbrev cX6_addTo : ByteArray := prog_8_method_11_code
def yX6_addTo : MethodName := ⟨RX6, "addTo", "(III)V"⟩
abbrev cX6_figure : ByteArray := prog_8_method_12_code
def yX6_figure : MethodName := ⟨RX6, "figure", "(II)I"⟩
abbrev cX6_lost : ByteArray := prog_8_method_13_code
def yX6_lost : MethodName := ⟨RX6, "lost", "(I)I"⟩
abbrev cX6_putIn : ByteArray := prog_8_method_14_code
def yX6_putIn : MethodName := ⟨RX6, "putIn", "(I)I"⟩
abbrev cX6_isAgain : ByteArray := prog_8_method_15_code
def yX6_isAgain : MethodName := ⟨RX6, "isAgain", "(I)Z"⟩
abbrev cX6_agrees : ByteArray := prog_8_method_16_code
def yX6_agrees : MethodName := ⟨RX6, "agrees", "(I)Z"⟩
abbrev cX6_validOf : ByteArray := prog_8_method_17_code
def yX6_validOf : MethodName := ⟨RX6, "validOf", "(II)I"⟩
abbrev cX6_toldOf : ByteArray := prog_8_method_18_code
def yX6_toldOf : MethodName := ⟨RX6, "toldOf", "(II)I"⟩
abbrev cX6_seatOf : ByteArray := prog_8_method_19_code
def yX6_seatOf : MethodName := ⟨RX6, "seatOf", "(I)I"⟩
abbrev cX6_sumOf : ByteArray := prog_8_method_20_code
def yX6_sumOf : MethodName := ⟨RX6, "sumOf", "(II)I"⟩
abbrev cX6_mayStand : ByteArray := prog_8_method_21_code
def yX6_mayStand : MethodName := ⟨RX6, "mayStand", "(II)Z"⟩
abbrev cX6_holder : ByteArray := prog_8_method_22_code
def yX6_holder : MethodName := ⟨RX6, "holder", "(I)I"⟩
abbrev cX6_margin : ByteArray := prog_8_method_23_code
def yX6_margin : MethodName := ⟨RX6, "margin", "(I)I"⟩
abbrev cX6_hangs : ByteArray := prog_8_method_24_code
def yX6_hangs : MethodName := ⟨RX6, "hangs", "(I)Z"⟩
abbrev cX6_join : ByteArray := prog_8_method_25_code
def yX6_join : MethodName := ⟨RX6, "join", "(II)V"⟩
abbrev cX6_addSymbols : ByteArray := prog_8_method_26_code
def yX6_addSymbols : MethodName := ⟨RX6, "addSymbols", "(I)I"⟩
abbrev cX6_areJoined : ByteArray := prog_8_method_27_code
def yX6_areJoined : MethodName := ⟨RX6, "areJoined", "(II)Z"⟩
abbrev cX6_joinedSum : ByteArray := prog_8_method_28_code
def yX6_joinedSum : MethodName := ⟨RX6, "joinedSum", "(II)I"⟩
abbrev cX6_joinedBooths : ByteArray := prog_8_method_29_code
def yX6_joinedBooths : MethodName := ⟨RX6, "joinedBooths", "(I)I"⟩
abbrev cX6_shareOf : ByteArray := prog_8_method_30_code
def yX6_shareOf : MethodName := ⟨RX6, "shareOf", "(II)I"⟩
abbrev cX6_sumByAllSeats : ByteArray := prog_8_method_31_code
def yX6_sumByAllSeats : MethodName := ⟨RX6, "sumByAllSeats", "()I"⟩
def RX7 : String := "FirstPolls$View"
def TX7 : u_T := fun k => match k with
  | 0 => ("FirstPolls$View", "land", "LFirstPolls$Land;", true)
  | 1 => ("FirstPolls$View", "asked", "LFirstPolls$Asked;", true)
  | 2 => ("FirstPolls$View", "day", "I", false)
  | 3 => ("FirstPolls$View", "known", "I", false)
  | 4 => ("FirstPolls$View", "looked", "Z", false)
  | 5 => ("FirstPolls$View", "rollsCounted", "Z", false)
  | 6 => ("FirstPolls$View", "looks", "I", false)
  | 7 => ("FirstPolls$View", "struck", "[Z", true)
  | 8 => ("FirstPolls$View", "inForce", "[Z", true)
  | 9 => ("FirstPolls$View", "live", "[I", true)
  | 10 => ("FirstPolls$View", "lives", "I", false)
  | 11 => ("FirstPolls$View", "placesThen", "[I", true)
  | 12 => ("FirstPolls$View", "onThen", "[Z", true)
  | _ => ("FirstPolls$View", "rolls", "[I", true)
def tyX7 : Nat → FieldType := fun k => match k with
  | 0 => .object "FirstPolls$Land"
  | 1 => .object "FirstPolls$Asked"
  | 2 => .int
  | 3 => .int
  | 4 => .boolean
  | 5 => .boolean
  | 6 => .int
  | 7 => .array .boolean
  | 8 => .array .boolean
  | 9 => .array .int
  | 10 => .int
  | 11 => .array .int
  | 12 => .array .boolean
  | _ => .array .int
abbrev wsX70 : List Cond := u_ws RX7 TX7 14
theorem nmX7 : ∀ a, a < 14 → ∀ b, b < 14 → a ≠ b → (TX7 a).2.1 ≠ (TX7 b).2.1 := by decide +kernel
theorem tyX7_ok : ∀ k, k < 14 → parseFieldDescriptor (TX7 k).2.2.1 = some (tyX7 k) := by decide +kernel
abbrev cX7_init : ByteArray := prog_9_method_1_code
def yX7_init : MethodName := ⟨RX7, "<init>", "(LFirstPolls$Land;)V"⟩
abbrev cX7_forget : ByteArray := prog_9_method_2_code
def yX7_forget : MethodName := ⟨RX7, "forget", "()V"⟩
abbrev cX7_looks : ByteArray := prog_9_method_3_code
def yX7_looks : MethodName := ⟨RX7, "looks", "()I"⟩
abbrev cX7_known : ByteArray := prog_9_method_4_code
def yX7_known : MethodName := ⟨RX7, "known", "()I"⟩
abbrev cX7_look : ByteArray := prog_9_method_5_code
def yX7_look : MethodName := ⟨RX7, "look", "(II)V"⟩
abbrev cX7_lookAtRolls : ByteArray := prog_9_method_6_code
def yX7_lookAtRolls : MethodName := ⟨RX7, "lookAtRolls", "(II)V"⟩
abbrev cX7_findInForce : ByteArray := prog_9_method_7_code
def yX7_findInForce : MethodName := ⟨RX7, "findInForce", "()V"⟩
abbrev cX7_putInForce : ByteArray := prog_9_method_8_code
def yX7_putInForce : MethodName := ⟨RX7, "putInForce", "(I)V"⟩
abbrev cX7_strikeOut : ByteArray := prog_9_method_9_code
def yX7_strikeOut : MethodName := ⟨RX7, "strikeOut", "(II)V"⟩
abbrev cX7_isInForce : ByteArray := prog_9_method_10_code
def yX7_isInForce : MethodName := ⟨RX7, "isInForce", "(I)Z"⟩
abbrev cX7_liveClauses : ByteArray := prog_9_method_11_code
def yX7_liveClauses : MethodName := ⟨RX7, "liveClauses", "()I"⟩
abbrev cX7_liveClause : ByteArray := prog_9_method_12_code
def yX7_liveClause : MethodName := ⟨RX7, "liveClause", "(I)I"⟩
abbrev cX7_holds : ByteArray := prog_9_method_13_code
def yX7_holds : MethodName := ⟨RX7, "holds", "(I)Z"⟩
abbrev cX7_ruled : ByteArray := prog_9_method_14_code
def yX7_ruled : MethodName := ⟨RX7, "ruled", "(II)I"⟩
abbrev cX7_ruledAt : ByteArray := prog_9_method_15_code
def yX7_ruledAt : MethodName := ⟨RX7, "ruledAt", "(II)I"⟩
abbrev cX7_fewest : ByteArray := prog_9_method_16_code
def yX7_fewest : MethodName := ⟨RX7, "fewest", "()I"⟩
abbrev cX7_tellName : ByteArray := prog_9_method_17_code
def yX7_tellName : MethodName := ⟨RX7, "tellName", "(II)V"⟩
abbrev cX7_tellPlace : ByteArray := prog_9_method_18_code
def yX7_tellPlace : MethodName := ⟨RX7, "tellPlace", "(I)V"⟩
abbrev cX7_tell : ByteArray := prog_9_method_19_code
def yX7_tell : MethodName := ⟨RX7, "tell", "(II)V"⟩
abbrev cX7_hasCome : ByteArray := prog_9_method_20_code
def yX7_hasCome : MethodName := ⟨RX7, "hasCome", "(III)Z"⟩
abbrev cX7_placeThen : ByteArray := prog_9_method_21_code
def yX7_placeThen : MethodName := ⟨RX7, "placeThen", "(I)I"⟩
abbrev cX7_isOnRoll : ByteArray := prog_9_method_22_code
def yX7_isOnRoll : MethodName := ⟨RX7, "isOnRoll", "(I)Z"⟩
abbrev cX7_namesAt : ByteArray := prog_9_method_23_code
def yX7_namesAt : MethodName := ⟨RX7, "namesAt", "(I)I"⟩
abbrev cX7_pairAt : ByteArray := prog_9_method_24_code
def yX7_pairAt : MethodName := ⟨RX7, "pairAt", "(I)I"⟩
abbrev cX7_areTwice : ByteArray := prog_9_method_25_code
def yX7_areTwice : MethodName := ⟨RX7, "areTwice", "(II)Z"⟩
def RX8 : String := "FirstPolls$Wishes"
def TX8 : u_T := fun k => match k with
  | 0 => ("FirstPolls$Wishes", "land", "LFirstPolls$Land;", true)
  | 1 => ("FirstPolls$Wishes", "wished", "[I", true)
  | 2 => ("FirstPolls$Wishes", "firsts", "[I", true)
  | 3 => ("FirstPolls$Wishes", "lasts", "[I", true)
  | _ => ("FirstPolls$Wishes", "size", "I", false)
def tyX8 : Nat → FieldType := fun k => match k with
  | 0 => .object "FirstPolls$Land"
  | 1 => .array .int
  | 2 => .array .int
  | 3 => .array .int
  | _ => .int
abbrev wsX80 : List Cond := u_ws RX8 TX8 5
theorem nmX8 : ∀ a, a < 5 → ∀ b, b < 5 → a ≠ b → (TX8 a).2.1 ≠ (TX8 b).2.1 := by decide +kernel
theorem tyX8_ok : ∀ k, k < 5 → parseFieldDescriptor (TX8 k).2.2.1 = some (tyX8 k) := by decide +kernel
abbrev cX8_init : ByteArray := prog_10_method_1_code
def yX8_init : MethodName := ⟨RX8, "<init>", "(LFirstPolls$Land;)V"⟩
abbrev cX8_size : ByteArray := prog_10_method_2_code
def yX8_size : MethodName := ⟨RX8, "size", "()I"⟩
abbrev cX8_holds : ByteArray := prog_10_method_3_code
def yX8_holds : MethodName := ⟨RX8, "holds", "(I)Z"⟩
abbrev cX8_add : ByteArray := prog_10_method_4_code
def yX8_add : MethodName := ⟨RX8, "add", "(I)Z"⟩
abbrev cX8_drop : ByteArray := prog_10_method_5_code
def yX8_drop : MethodName := ⟨RX8, "drop", "()I"⟩
abbrev cX8_limit : ByteArray := prog_10_method_6_code
def yX8_limit : MethodName := ⟨RX8, "limit", "(III)Z"⟩
abbrev cX8_at : ByteArray := prog_10_method_7_code
def yX8_at : MethodName := ⟨RX8, "at", "(I)I"⟩
abbrev cX8_first : ByteArray := prog_10_method_8_code
def yX8_first : MethodName := ⟨RX8, "first", "(I)I"⟩
abbrev cX8_last : ByteArray := prog_10_method_9_code
def yX8_last : MethodName := ⟨RX8, "last", "(I)I"⟩
abbrev cX8_areAllThere : ByteArray := prog_10_method_10_code
def yX8_areAllThere : MethodName := ⟨RX8, "areAllThere", "()Z"⟩
def RX9 : String := "FirstPolls"
def TX9 : u_T := fun k => match k with
  | 0 => ("FirstPolls", "land", "LFirstPolls$Land;", true)
  | 1 => ("FirstPolls", "images", "[LFirstPolls$Land;", true)
  | 2 => ("FirstPolls", "reader", "LFirstPolls$Reader;", true)
  | 3 => ("FirstPolls", "view", "LFirstPolls$View;", true)
  | 4 => ("FirstPolls", "tally", "LFirstPolls$Tally;", true)
  | 5 => ("FirstPolls", "wishes", "LFirstPolls$Wishes;", true)
  | 6 => ("FirstPolls", "siting", "LFirstPolls$Siting;", true)
  | 7 => ("FirstPolls", "journey", "LFirstPolls$Journey;", true)
  | _ => ("FirstPolls", "refusedBy", "I", false)
def tyX9 : Nat → FieldType := fun k => match k with
  | 0 => .object "FirstPolls$Land"
  | 1 => .array (.object "FirstPolls$Land")
  | 2 => .object "FirstPolls$Reader"
  | 3 => .object "FirstPolls$View"
  | 4 => .object "FirstPolls$Tally"
  | 5 => .object "FirstPolls$Wishes"
  | 6 => .object "FirstPolls$Siting"
  | 7 => .object "FirstPolls$Journey"
  | _ => .int
abbrev wsX90 : List Cond := u_ws RX9 TX9 9
theorem nmX9 : ∀ a, a < 9 → ∀ b, b < 9 → a ≠ b → (TX9 a).2.1 ≠ (TX9 b).2.1 := by decide +kernel
theorem tyX9_ok : ∀ k, k < 9 → parseFieldDescriptor (TX9 k).2.2.1 = some (tyX9 k) := by decide +kernel
abbrev cX9_init : ByteArray := prog_1_method_1_code
def yX9_init : MethodName := ⟨RX9, "<init>", "()V"⟩
abbrev cX9_place : ByteArray := prog_1_method_2_code
def yX9_place : MethodName := ⟨RX9, "place", "(III)I"⟩
abbrev cX9_name : ByteArray := prog_1_method_3_code
def yX9_name : MethodName := ⟨RX9, "name", "(IIIIII)I"⟩
abbrev cX9_row : ByteArray := prog_1_method_4_code
def yX9_row : MethodName := ⟨RX9, "row", "(II)I"⟩
abbrev cX9_off : ByteArray := prog_1_method_5_code
def yX9_off : MethodName := ⟨RX9, "off", "(III)I"⟩
abbrev cX9_moved : ByteArray := prog_1_method_6_code
def yX9_moved : MethodName := ⟨RX9, "moved", "(IIII)I"⟩
abbrev cX9_of : ByteArray := prog_1_method_7_code
def yX9_of : MethodName := ⟨RX9, "of", "(II)I"⟩
abbrev cX9_where : ByteArray := prog_1_method_8_code
def yX9_where : MethodName := ⟨RX9, "where", "(III)I"⟩
abbrev cX9_on : ByteArray := prog_1_method_9_code
def yX9_on : MethodName := ⟨RX9, "on", "(III)I"⟩
abbrev cX9_roll : ByteArray := prog_1_method_10_code
def yX9_roll : MethodName := ⟨RX9, "roll", "(III)I"⟩
abbrev cX9_like : ByteArray := prog_1_method_11_code
def yX9_like : MethodName := ⟨RX9, "like", "(II)I"⟩
abbrev cX9_apart : ByteArray := prog_1_method_12_code
def yX9_apart : MethodName := ⟨RX9, "apart", "(II)I"⟩
abbrev cX9_twice : ByteArray := prog_1_method_13_code
def yX9_twice : MethodName := ⟨RX9, "twice", "(III)I"⟩
abbrev cX9_feed : ByteArray := prog_1_method_14_code
def yX9_feed : MethodName := ⟨RX9, "feed", "(IIIII)I"⟩
abbrev cX9_end : ByteArray := prog_1_method_15_code
def yX9_end : MethodName := ⟨RX9, "end", "(I)I"⟩
abbrev cX9_order : ByteArray := prog_1_method_16_code
def yX9_order : MethodName := ⟨RX9, "order", "(I)I"⟩
abbrev cX9_fault : ByteArray := prog_1_method_17_code
def yX9_fault : MethodName := ⟨RX9, "fault", "()I"⟩
abbrev cX9_force : ByteArray := prog_1_method_18_code
def yX9_force : MethodName := ⟨RX9, "force", "(III)I"⟩
abbrev cX9_rule : ByteArray := prog_1_method_19_code
def yX9_rule : MethodName := ⟨RX9, "rule", "(IIII)I"⟩
abbrev cX9_wish : ByteArray := prog_1_method_20_code
def yX9_wish : MethodName := ⟨RX9, "wish", "(I)I"⟩
abbrev cX9_clear : ByteArray := prog_1_method_21_code
def yX9_clear : MethodName := ⟨RX9, "clear", "()I"⟩
abbrev cX9_booths : ByteArray := prog_1_method_22_code
def yX9_booths : MethodName := ⟨RX9, "booths", "(II)I"⟩
abbrev cX9_led : ByteArray := prog_1_method_23_code
def yX9_led : MethodName := ⟨RX9, "led", "(I)I"⟩
abbrev cX9_judge : ByteArray := prog_1_method_24_code
def yX9_judge : MethodName := ⟨RX9, "judge", "(III)I"⟩
abbrev cX9_booth : ByteArray := prog_1_method_25_code
def yX9_booth : MethodName := ⟨RX9, "booth", "(I)I"⟩
abbrev cX9_box : ByteArray := prog_1_method_26_code
def yX9_box : MethodName := ⟨RX9, "box", "(II)I"⟩
abbrev cX9_hand : ByteArray := prog_1_method_27_code
def yX9_hand : MethodName := ⟨RX9, "hand", "(IIIII)I"⟩
abbrev cX9_held : ByteArray := prog_1_method_28_code
def yX9_held : MethodName := ⟨RX9, "held", "(III)I"⟩
abbrev cX9_broken : ByteArray := prog_1_method_29_code
def yX9_broken : MethodName := ⟨RX9, "broken", "(III)I"⟩
abbrev cX9_paper : ByteArray := prog_1_method_30_code
def yX9_paper : MethodName := ⟨RX9, "paper", "(IIII)I"⟩
abbrev cX9_count : ByteArray := prog_1_method_31_code
def yX9_count : MethodName := ⟨RX9, "count", "(IIIII)I"⟩
abbrev cX9_tells : ByteArray := prog_1_method_32_code
def yX9_tells : MethodName := ⟨RX9, "tells", "(IIII)I"⟩
abbrev cX9_keep : ByteArray := prog_1_method_33_code
def yX9_keep : MethodName := ⟨RX9, "keep", "(II)I"⟩
abbrev cX9_seat : ByteArray := prog_1_method_34_code
def yX9_seat : MethodName := ⟨RX9, "seat", "(IIII)I"⟩
abbrev cX9_hidden : ByteArray := prog_1_method_35_code
def yX9_hidden : MethodName := ⟨RX9, "hidden", "(IIIII)I"⟩
abbrev cX9_shares : ByteArray := prog_1_method_36_code
def yX9_shares : MethodName := ⟨RX9, "shares", "(IIII)I"⟩
abbrev cX9_terms : ByteArray := prog_1_method_37_code
def yX9_terms : MethodName := ⟨RX9, "terms", "(II)I"⟩
abbrev cX9_span : ByteArray := prog_1_method_38_code
def yX9_span : MethodName := ⟨RX9, "span", "(III)I"⟩
abbrev cX9_way : ByteArray := prog_1_method_39_code
def yX9_way : MethodName := ⟨RX9, "way", "(II)I"⟩
abbrev cX9_leg : ByteArray := prog_1_method_40_code
def yX9_leg : MethodName := ⟨RX9, "leg", "(II)I"⟩
abbrev cX9_doors : ByteArray := prog_1_method_41_code
def yX9_doors : MethodName := ⟨RX9, "doors", "(IIII)I"⟩
abbrev cX9_seal : ByteArray := prog_1_method_42_code
def yX9_seal : MethodName := ⟨RX9, "seal", "(I)I"⟩
abbrev cX9_alter : ByteArray := prog_1_method_43_code
def yX9_alter : MethodName := ⟨RX9, "alter", "(II)I"⟩
abbrev cX9_found : ByteArray := prog_1_method_44_code
def yX9_found : MethodName := ⟨RX9, "found", "(I)I"⟩
abbrev cX9_image : ByteArray := prog_1_method_45_code
def yX9_image : MethodName := ⟨RX9, "image", "(I)I"⟩
abbrev cX9_back : ByteArray := prog_1_method_46_code
def yX9_back : MethodName := ⟨RX9, "back", "(I)I"⟩
abbrev cX9_all : ByteArray := prog_1_method_47_code
def yX9_all : MethodName := ⟨RX9, "all", "(I)I"⟩
abbrev cX9_status : ByteArray := prog_1_method_48_code
def yX9_status : MethodName := ⟨RX9, "status", "()I"⟩
abbrev cX9_refuse : ByteArray := prog_1_method_49_code
def yX9_refuse : MethodName := ⟨RX9, "refuse", "(I)I"⟩
abbrev cX9_accept : ByteArray := prog_1_method_50_code
def yX9_accept : MethodName := ⟨RX9, "accept", "(I)I"⟩
abbrev cX9_addTold : ByteArray := prog_1_method_51_code
def yX9_addTold : MethodName := ⟨RX9, "addTold", "(III)Z"⟩
abbrev cX9_addName : ByteArray := prog_1_method_52_code
def yX9_addName : MethodName := ⟨RX9, "addName", "(IIIIII)I"⟩
abbrev cX9_isBelow : ByteArray := prog_1_method_53_code
def yX9_isBelow : MethodName := ⟨RX9, "isBelow", "(II)Z"⟩
abbrev cX9_isDay : ByteArray := prog_1_method_54_code
def yX9_isDay : MethodName := ⟨RX9, "isDay", "(I)Z"⟩
abbrev cX9_isLetter : ByteArray := prog_1_method_55_code
def yX9_isLetter : MethodName := ⟨RX9, "isLetter", "(I)Z"⟩
abbrev cX9_isDigit : ByteArray := prog_1_method_56_code
def yX9_isDigit : MethodName := ⟨RX9, "isDigit", "(I)Z"⟩
abbrev cX9_unset : ByteArray := prog_1_method_57_code
def yX9_unset : MethodName := ⟨RX9, "unset", "([Z)V"⟩
abbrev cX9_canBeName : ByteArray := prog_1_method_58_code
def yX9_canBeName : MethodName := ⟨RX9, "canBeName", "(IIII)Z"⟩
abbrev cX9_couldBe : ByteArray := prog_1_method_59_code
def yX9_couldBe : MethodName := ⟨RX9, "couldBe", "(IIII)Z"⟩
abbrev cX9_waysToDraw : ByteArray := prog_1_method_60_code
def yX9_waysToDraw : MethodName := ⟨RX9, "waysToDraw", "(IIIII)J"⟩
abbrev cX9_choices : ByteArray := prog_1_method_61_code
def yX9_choices : MethodName := ⟨RX9, "choices", "(II)J"⟩
def RX10 : String := "FirstPollsModel"
def TX10 : u_T := fun k => match k with
  | 0 => ("FirstPollsModel", "thrown", "I", false)
  | 1 => ("FirstPollsModel", "status", "I", false)
  | 2 => ("FirstPollsModel", "row", "[I", true)
  | 3 => ("FirstPollsModel", "images", "[I", true)
  | 4 => ("FirstPollsModel", "isKept", "[Z", true)
  | 5 => ("FirstPollsModel", "theDay", "I", false)
  | 6 => ("FirstPollsModel", "theKnown", "I", false)
  | 7 => ("FirstPollsModel", "isOnName", "[Z", true)
  | 8 => ("FirstPollsModel", "rollOf", "[I", true)
  | 9 => ("FirstPollsModel", "tape", "[I", true)
  | 10 => ("FirstPollsModel", "taped", "I", false)
  | 11 => ("FirstPollsModel", "from", "I", false)
  | 12 => ("FirstPollsModel", "to", "I", false)
  | 13 => ("FirstPollsModel", "sort", "I", false)
  | 14 => ("FirstPollsModel", "worth", "J", false)
  | 15 => ("FirstPollsModel", "fault", "I", false)
  | 16 => ("FirstPollsModel", "bad", "Z", false)
  | 17 => ("FirstPollsModel", "nClauses", "I", false)
  | 18 => ("FirstPollsModel", "nClause", "[I", true)
  | 19 => ("FirstPollsModel", "nCode", "I", false)
  | 20 => ("FirstPollsModel", "nOp", "[I", true)
  | 21 => ("FirstPollsModel", "nArg", "[I", true)
  | 22 => ("FirstPollsModel", "nLeaves", "I", false)
  | 23 => ("FirstPollsModel", "pile", "[I", true)
  | 24 => ("FirstPollsModel", "pileAt", "[I", true)
  | 25 => ("FirstPollsModel", "piled", "I", false)
  | 26 => ("FirstPollsModel", "opened", "I", false)
  | 27 => ("FirstPollsModel", "isOnText", "[Z", true)
  | 28 => ("FirstPollsModel", "isStruck", "[Z", true)
  | 29 => ("FirstPollsModel", "set", "[J", true)
  | 30 => ("FirstPollsModel", "rest", "[J", true)
  | 31 => ("FirstPollsModel", "broken", "Z", false)
  | 32 => ("FirstPollsModel", "value", "J", false)
  | 33 => ("FirstPollsModel", "sum", "J", false)
  | 34 => ("FirstPollsModel", "wishes", "I", false)
  | 35 => ("FirstPollsModel", "wish", "[I", true)
  | 36 => ("FirstPollsModel", "first", "[I", true)
  | 37 => ("FirstPollsModel", "last", "[I", true)
  | 38 => ("FirstPollsModel", "mostOf", "[I", true)
  | 39 => ("FirstPollsModel", "farOf", "[I", true)
  | 40 => ("FirstPollsModel", "filled", "[I", true)
  | 41 => ("FirstPollsModel", "leads", "[I", true)
  | 42 => ("FirstPollsModel", "bestLeads", "[I", true)
  | 43 => ("FirstPollsModel", "hasBest", "Z", false)
  | 44 => ("FirstPollsModel", "bestMany", "I", false)
  | 45 => ("FirstPollsModel", "bestSum", "I", false)
  | 46 => ("FirstPollsModel", "bestLed", "[I", true)
  | 47 => ("FirstPollsModel", "isVoid", "[Z", true)
  | 48 => ("FirstPollsModel", "valid", "[I", true)
  | 49 => ("FirstPollsModel", "sums", "[I", true)
  | 50 => ("FirstPollsModel", "winner", "I", false)
  | 51 => ("FirstPollsModel", "margin", "I", false)
  | 52 => ("FirstPollsModel", "joinOf", "[I", true)
  | 53 => ("FirstPollsModel", "hasWay", "Z", false)
  | 54 => ("FirstPollsModel", "wayMany", "I", false)
  | 55 => ("FirstPollsModel", "wayWish", "[I", true)
  | 56 => ("FirstPollsModel", "wayDay", "[I", true)
  | 57 => ("FirstPollsModel", "goes", "[I", true)
  | 58 => ("FirstPollsModel", "polls", "[I", true)
  | 59 => ("FirstPollsModel", "sealMany", "I", false)
  | 60 => ("FirstPollsModel", "sealSum", "J", false)
  | _ => ("FirstPollsModel", "sealPlaces", "J", false)
def tyX10 : Nat → FieldType := fun k => match k with
  | 0 => .int
  | 1 => .int
  | 2 => .array .int
  | 3 => .array .int
  | 4 => .array .boolean
  | 5 => .int
  | 6 => .int
  | 7 => .array .boolean
  | 8 => .array .int
  | 9 => .array .int
  | 10 => .int
  | 11 => .int
  | 12 => .int
  | 13 => .int
  | 14 => .long
  | 15 => .int
  | 16 => .boolean
  | 17 => .int
  | 18 => .array .int
  | 19 => .int
  | 20 => .array .int
  | 21 => .array .int
  | 22 => .int
  | 23 => .array .int
  | 24 => .array .int
  | 25 => .int
  | 26 => .int
  | 27 => .array .boolean
  | 28 => .array .boolean
  | 29 => .array .long
  | 30 => .array .long
  | 31 => .boolean
  | 32 => .long
  | 33 => .long
  | 34 => .int
  | 35 => .array .int
  | 36 => .array .int
  | 37 => .array .int
  | 38 => .array .int
  | 39 => .array .int
  | 40 => .array .int
  | 41 => .array .int
  | 42 => .array .int
  | 43 => .boolean
  | 44 => .int
  | 45 => .int
  | 46 => .array .int
  | 47 => .array .boolean
  | 48 => .array .int
  | 49 => .array .int
  | 50 => .int
  | 51 => .int
  | 52 => .array .int
  | 53 => .boolean
  | 54 => .int
  | 55 => .array .int
  | 56 => .array .int
  | 57 => .array .int
  | 58 => .array .int
  | 59 => .int
  | 60 => .long
  | _ => .long
abbrev wsX100 : List Cond := u_ws RX10 TX10 62
theorem nmX10 : ∀ a, a < 62 → ∀ b, b < 62 → a ≠ b → (TX10 a).2.1 ≠ (TX10 b).2.1 := by decide +kernel
theorem tyX10_ok : ∀ k, k < 62 → parseFieldDescriptor (TX10 k).2.2.1 = some (tyX10 k) := by decide +kernel
abbrev cX10_init : ByteArray := prog_12_method_1_code
def yX10_init : MethodName := ⟨RX10, "<init>", "()V"⟩
abbrev cX10_in : ByteArray := prog_12_method_3_code
def yX10_in : MethodName := ⟨RX10, "in", "(JJJ)Z"⟩
abbrev cX10_told : ByteArray := prog_12_method_4_code
def yX10_told : MethodName := ⟨RX10, "told", "(I)I"⟩
abbrev cX10_isDay : ByteArray := prog_12_method_5_code
def yX10_isDay : MethodName := ⟨RX10, "isDay", "(I)Z"⟩
abbrev cX10_image : ByteArray := prog_12_method_6_code
def yX10_image : MethodName := ⟨RX10, "image", "(I)I"⟩
abbrev cX10_back : ByteArray := prog_12_method_7_code
def yX10_back : MethodName := ⟨RX10, "back", "(I)I"⟩
abbrev cX10_addFour : ByteArray := prog_12_method_8_code
def yX10_addFour : MethodName := ⟨RX10, "addFour", "(IIIII)V"⟩
abbrev cX10_isPlace : ByteArray := prog_12_method_9_code
def yX10_isPlace : MethodName := ⟨RX10, "isPlace", "(I)Z"⟩
abbrev cX10_isName : ByteArray := prog_12_method_10_code
def yX10_isName : MethodName := ⟨RX10, "isName", "(I)Z"⟩
abbrev cX10_isBooth : ByteArray := prog_12_method_11_code
def yX10_isBooth : MethodName := ⟨RX10, "isBooth", "(I)Z"⟩
abbrev cX10_isBox : ByteArray := prog_12_method_12_code
def yX10_isBox : MethodName := ⟨RX10, "isBox", "(I)Z"⟩
abbrev cX10_placeAt : ByteArray := prog_12_method_13_code
def yX10_placeAt : MethodName := ⟨RX10, "placeAt", "(I)I"⟩
abbrev cX10_nameAt : ByteArray := prog_12_method_14_code
def yX10_nameAt : MethodName := ⟨RX10, "nameAt", "(I)I"⟩
abbrev cX10_place : ByteArray := prog_12_method_15_code
def yX10_place : MethodName := ⟨RX10, "place", "(III)I"⟩
abbrev cX10_areLetters : ByteArray := prog_12_method_16_code
def yX10_areLetters : MethodName := ⟨RX10, "areLetters", "(I)Z"⟩
abbrev cX10_isPerson : ByteArray := prog_12_method_17_code
def yX10_isPerson : MethodName := ⟨RX10, "isPerson", "(IIII)Z"⟩
abbrev cX10_addName : ByteArray := prog_12_method_18_code
def yX10_addName : MethodName := ⟨RX10, "addName", "(IIIIII)V"⟩
abbrev cX10_name : ByteArray := prog_12_method_19_code
def yX10_name : MethodName := ⟨RX10, "name", "(IIIIII)I"⟩
abbrev cX10_row : ByteArray := prog_12_method_20_code
def yX10_row : MethodName := ⟨RX10, "row", "(II)I"⟩
abbrev cX10_off : ByteArray := prog_12_method_21_code
def yX10_off : MethodName := ⟨RX10, "off", "(III)I"⟩
abbrev cX10_moved : ByteArray := prog_12_method_22_code
def yX10_moved : MethodName := ⟨RX10, "moved", "(IIII)I"⟩
abbrev cX10_of : ByteArray := prog_12_method_23_code
def yX10_of : MethodName := ⟨RX10, "of", "(II)I"⟩
abbrev cX10_hasMoved : ByteArray := prog_12_method_24_code
def yX10_hasMoved : MethodName := ⟨RX10, "hasMoved", "(III)Z"⟩
abbrev cX10_whereOf : ByteArray := prog_12_method_25_code
def yX10_whereOf : MethodName := ⟨RX10, "whereOf", "(III)I"⟩
abbrev cX10_where : ByteArray := prog_12_method_26_code
def yX10_where : MethodName := ⟨RX10, "where", "(III)I"⟩
abbrev cX10_isOnNow : ByteArray := prog_12_method_27_code
def yX10_isOnNow : MethodName := ⟨RX10, "isOnNow", "(I)Z"⟩
abbrev cX10_knowBy : ByteArray := prog_12_method_28_code
def yX10_knowBy : MethodName := ⟨RX10, "knowBy", "(II)V"⟩
abbrev cX10_on : ByteArray := prog_12_method_29_code
def yX10_on : MethodName := ⟨RX10, "on", "(III)I"⟩
abbrev cX10_roll : ByteArray := prog_12_method_30_code
def yX10_roll : MethodName := ⟨RX10, "roll", "(III)I"⟩
abbrev cX10_likeOf : ByteArray := prog_12_method_31_code
def yX10_likeOf : MethodName := ⟨RX10, "likeOf", "(II)I"⟩
abbrev cX10_like : ByteArray := prog_12_method_32_code
def yX10_like : MethodName := ⟨RX10, "like", "(II)I"⟩
abbrev cX10_apart : ByteArray := prog_12_method_33_code
def yX10_apart : MethodName := ⟨RX10, "apart", "(II)I"⟩
abbrev cX10_isBarred : ByteArray := prog_12_method_34_code
def yX10_isBarred : MethodName := ⟨RX10, "isBarred", "(II)Z"⟩
abbrev cX10_twice : ByteArray := prog_12_method_35_code
def yX10_twice : MethodName := ⟨RX10, "twice", "(III)I"⟩
abbrev cX10_four : ByteArray := prog_12_method_36_code
def yX10_four : MethodName := ⟨RX10, "four", "(I)V"⟩
abbrev cX10_feed : ByteArray := prog_12_method_37_code
def yX10_feed : MethodName := ⟨RX10, "feed", "(IIIII)I"⟩
abbrev cX10_end : ByteArray := prog_12_method_38_code
def yX10_end : MethodName := ⟨RX10, "end", "(I)I"⟩
abbrev cX10_isSmall : ByteArray := prog_12_method_39_code
def yX10_isSmall : MethodName := ⟨RX10, "isSmall", "(I)Z"⟩
abbrev cX10_isDigit : ByteArray := prog_12_method_40_code
def yX10_isDigit : MethodName := ⟨RX10, "isDigit", "(I)Z"⟩
abbrev cX10_begin : ByteArray := prog_12_method_41_code
def yX10_begin : MethodName := ⟨RX10, "begin", "()V"⟩
abbrev cX10_next : ByteArray := prog_12_method_42_code
def yX10_next : MethodName := ⟨RX10, "next", "()V"⟩
abbrev cX10_isWord : ByteArray := prog_12_method_43_code
def yX10_isWord : MethodName := ⟨RX10, "isWord", "(J)Z"⟩
abbrev cX10_isSign : ByteArray := prog_12_method_44_code
def yX10_isSign : MethodName := ⟨RX10, "isSign", "(I)Z"⟩
abbrev cX10_must : ByteArray := prog_12_method_45_code
def yX10_must : MethodName := ⟨RX10, "must", "(Z)V"⟩
abbrev cX10_number : ByteArray := prog_12_method_46_code
def yX10_number : MethodName := ⟨RX10, "number", "(JJ)I"⟩
abbrev cX10_fault : ByteArray := prog_12_method_47_code
def yX10_fault : MethodName := ⟨RX10, "fault", "()I"⟩
abbrev cX10_emit : ByteArray := prog_12_method_48_code
def yX10_emit : MethodName := ⟨RX10, "emit", "(II)V"⟩
abbrev cX10_push : ByteArray := prog_12_method_49_code
def yX10_push : MethodName := ⟨RX10, "push", "(II)V"⟩
abbrev cX10_binds : ByteArray := prog_12_method_50_code
def yX10_binds : MethodName := ⟨RX10, "binds", "(I)I"⟩
abbrev cX10_settle : ByteArray := prog_12_method_51_code
def yX10_settle : MethodName := ⟨RX10, "settle", "(I)V"⟩
abbrev cX10_inner : ByteArray := prog_12_method_52_code
def yX10_inner : MethodName := ⟨RX10, "inner", "()I"⟩
abbrev cX10_isCompared : ByteArray := prog_12_method_53_code
def yX10_isCompared : MethodName := ⟨RX10, "isCompared", "()Z"⟩
abbrev cX10_partAt : ByteArray := prog_12_method_54_code
def yX10_partAt : MethodName := ⟨RX10, "partAt", "()I"⟩
abbrev cX10_plainAt : ByteArray := prog_12_method_55_code
def yX10_plainAt : MethodName := ⟨RX10, "plainAt", "()I"⟩
abbrev cX10_open : ByteArray := prog_12_method_56_code
def yX10_open : MethodName := ⟨RX10, "open", "(I)V"⟩
abbrev cX10_leaf : ByteArray := prog_12_method_57_code
def yX10_leaf : MethodName := ⟨RX10, "leaf", "(ZII)V"⟩
abbrev cX10_readPart : ByteArray := prog_12_method_58_code
def yX10_readPart : MethodName := ⟨RX10, "readPart", "()I"⟩
abbrev cX10_readPlain : ByteArray := prog_12_method_59_code
def yX10_readPlain : MethodName := ⟨RX10, "readPlain", "()I"⟩
abbrev cX10_behindSum : ByteArray := prog_12_method_60_code
def yX10_behindSum : MethodName := ⟨RX10, "behindSum", "(Z)I"⟩
abbrev cX10_behindTest : ByteArray := prog_12_method_61_code
def yX10_behindTest : MethodName := ⟨RX10, "behindTest", "()I"⟩
abbrev cX10_readExpression : ByteArray := prog_12_method_62_code
def yX10_readExpression : MethodName := ⟨RX10, "readExpression", "(Z)V"⟩
abbrev cX10_headAt : ByteArray := prog_12_method_63_code
def yX10_headAt : MethodName := ⟨RX10, "headAt", "()I"⟩
abbrev cX10_readClause : ByteArray := prog_12_method_64_code
def yX10_readClause : MethodName := ⟨RX10, "readClause", "()V"⟩
abbrev cX10_order : ByteArray := prog_12_method_65_code
def yX10_order : MethodName := ⟨RX10, "order", "(I)I"⟩
abbrev cX10_textAt : ByteArray := prog_12_method_66_code
def yX10_textAt : MethodName := ⟨RX10, "textAt", "(I)I"⟩
abbrev cX10_clauseAt : ByteArray := prog_12_method_67_code
def yX10_clauseAt : MethodName := ⟨RX10, "clauseAt", "(II)I"⟩
abbrev cX10_findForce : ByteArray := prog_12_method_68_code
def yX10_findForce : MethodName := ⟨RX10, "findForce", "(I)V"⟩
abbrev cX10_force : ByteArray := prog_12_method_69_code
def yX10_force : MethodName := ⟨RX10, "force", "(III)I"⟩
abbrev cX10_setNothing : ByteArray := prog_12_method_70_code
def yX10_setNothing : MethodName := ⟨RX10, "setNothing", "()V"⟩
abbrev cX10_setName : ByteArray := prog_12_method_71_code
def yX10_setName : MethodName := ⟨RX10, "setName", "(I)V"⟩
abbrev cX10_setPlace : ByteArray := prog_12_method_72_code
def yX10_setPlace : MethodName := ⟨RX10, "setPlace", "(I)V"⟩
abbrev cX10_setBooth : ByteArray := prog_12_method_73_code
def yX10_setBooth : MethodName := ⟨RX10, "setBooth", "(I)V"⟩
abbrev cX10_reckon : ByteArray := prog_12_method_74_code
def yX10_reckon : MethodName := ⟨RX10, "reckon", "(IJJ)J"⟩
abbrev cX10_run : ByteArray := prog_12_method_75_code
def yX10_run : MethodName := ⟨RX10, "run", "(III)V"⟩
abbrev cX10_isSo : ByteArray := prog_12_method_76_code
def yX10_isSo : MethodName := ⟨RX10, "isSo", "(II)Z"⟩
abbrev cX10_find : ByteArray := prog_12_method_77_code
def yX10_find : MethodName := ⟨RX10, "find", "(II)Z"⟩
abbrev cX10_ruleOf : ByteArray := prog_12_method_78_code
def yX10_ruleOf : MethodName := ⟨RX10, "ruleOf", "(II)I"⟩
abbrev cX10_rule : ByteArray := prog_12_method_79_code
def yX10_rule : MethodName := ⟨RX10, "rule", "(IIII)I"⟩
abbrev cX10_wish : ByteArray := prog_12_method_80_code
def yX10_wish : MethodName := ⟨RX10, "wish", "(I)I"⟩
abbrev cX10_clear : ByteArray := prog_12_method_81_code
def yX10_clear : MethodName := ⟨RX10, "clear", "()I"⟩
abbrev cX10_areThere : ByteArray := prog_12_method_82_code
def yX10_areThere : MethodName := ⟨RX10, "areThere", "()Z"⟩
abbrev cX10_away : ByteArray := prog_12_method_83_code
def yX10_away : MethodName := ⟨RX10, "away", "(II)I"⟩
abbrev cX10_setRules : ByteArray := prog_12_method_84_code
def yX10_setRules : MethodName := ⟨RX10, "setRules", "(II)V"⟩
abbrev cX10_leastBy : ByteArray := prog_12_method_85_code
def yX10_leastBy : MethodName := ⟨RX10, "leastBy", "(I)I"⟩
abbrev cX10_mayLead : ByteArray := prog_12_method_86_code
def yX10_mayLead : MethodName := ⟨RX10, "mayLead", "(IIIII)Z"⟩
abbrev cX10_ones : ByteArray := prog_12_method_87_code
def yX10_ones : MethodName := ⟨RX10, "ones", "(I)I"⟩
abbrev cX10_booths : ByteArray := prog_12_method_88_code
def yX10_booths : MethodName := ⟨RX10, "booths", "(II)I"⟩
abbrev cX10_led : ByteArray := prog_12_method_89_code
def yX10_led : MethodName := ⟨RX10, "led", "(I)I"⟩
abbrev cX10_judge : ByteArray := prog_12_method_90_code
def yX10_judge : MethodName := ⟨RX10, "judge", "(III)I"⟩
abbrev cX10_booth : ByteArray := prog_12_method_91_code
def yX10_booth : MethodName := ⟨RX10, "booth", "(I)I"⟩
abbrev cX10_box : ByteArray := prog_12_method_92_code
def yX10_box : MethodName := ⟨RX10, "box", "(II)I"⟩
abbrev cX10_hand : ByteArray := prog_12_method_93_code
def yX10_hand : MethodName := ⟨RX10, "hand", "(IIIII)I"⟩
abbrev cX10_held : ByteArray := prog_12_method_94_code
def yX10_held : MethodName := ⟨RX10, "held", "(III)I"⟩
abbrev cX10_brokenOf : ByteArray := prog_12_method_95_code
def yX10_brokenOf : MethodName := ⟨RX10, "brokenOf", "(II)I"⟩
abbrev cX10_aheadOf : ByteArray := prog_12_method_96_code
def yX10_aheadOf : MethodName := ⟨RX10, "aheadOf", "(II)I"⟩
abbrev cX10_broken : ByteArray := prog_12_method_97_code
def yX10_broken : MethodName := ⟨RX10, "broken", "(III)I"⟩
abbrev cX10_paper : ByteArray := prog_12_method_98_code
def yX10_paper : MethodName := ⟨RX10, "paper", "(IIII)I"⟩
abbrev cX10_paperOf : ByteArray := prog_12_method_99_code
def yX10_paperOf : MethodName := ⟨RX10, "paperOf", "(II)I"⟩
abbrev cX10_count : ByteArray := prog_12_method_100_code
def yX10_count : MethodName := ⟨RX10, "count", "(IIIII)I"⟩
abbrev cX10_doesCount : ByteArray := prog_12_method_101_code
def yX10_doesCount : MethodName := ⟨RX10, "doesCount", "(I)Z"⟩
abbrev cX10_boothOf : ByteArray := prog_12_method_102_code
def yX10_boothOf : MethodName := ⟨RX10, "boothOf", "(I)I"⟩
abbrev cX10_putOf : ByteArray := prog_12_method_103_code
def yX10_putOf : MethodName := ⟨RX10, "putOf", "(I)I"⟩
abbrev cX10_findValid : ByteArray := prog_12_method_104_code
def yX10_findValid : MethodName := ⟨RX10, "findValid", "(I)V"⟩
abbrev cX10_isAgain : ByteArray := prog_12_method_105_code
def yX10_isAgain : MethodName := ⟨RX10, "isAgain", "(I)Z"⟩
abbrev cX10_tells : ByteArray := prog_12_method_106_code
def yX10_tells : MethodName := ⟨RX10, "tells", "(IIII)I"⟩
abbrev cX10_keep : ByteArray := prog_12_method_107_code
def yX10_keep : MethodName := ⟨RX10, "keep", "(II)I"⟩
abbrev cX10_seatOf : ByteArray := prog_12_method_108_code
def yX10_seatOf : MethodName := ⟨RX10, "seatOf", "(I)I"⟩
abbrev cX10_addSeat : ByteArray := prog_12_method_109_code
def yX10_addSeat : MethodName := ⟨RX10, "addSeat", "(I)V"⟩
abbrev cX10_findWinner : ByteArray := prog_12_method_110_code
def yX10_findWinner : MethodName := ⟨RX10, "findWinner", "(I)V"⟩
abbrev cX10_hangs : ByteArray := prog_12_method_111_code
def yX10_hangs : MethodName := ⟨RX10, "hangs", "(I)Z"⟩
abbrev cX10_seat : ByteArray := prog_12_method_112_code
def yX10_seat : MethodName := ⟨RX10, "seat", "(IIII)I"⟩
abbrev cX10_joinBooths : ByteArray := prog_12_method_113_code
def yX10_joinBooths : MethodName := ⟨RX10, "joinBooths", "(II)I"⟩
abbrev cX10_hidden : ByteArray := prog_12_method_114_code
def yX10_hidden : MethodName := ⟨RX10, "hidden", "(IIIII)I"⟩
abbrev cX10_shares : ByteArray := prog_12_method_115_code
def yX10_shares : MethodName := ⟨RX10, "shares", "(IIII)I"⟩
abbrev cX10_terms : ByteArray := prog_12_method_116_code
def yX10_terms : MethodName := ⟨RX10, "terms", "(II)I"⟩
abbrev cX10_span : ByteArray := prog_12_method_117_code
def yX10_span : MethodName := ⟨RX10, "span", "(III)I"⟩
abbrev cX10_daysOf : ByteArray := prog_12_method_118_code
def yX10_daysOf : MethodName := ⟨RX10, "daysOf", "(II)I"⟩
abbrev cX10_isGone : ByteArray := prog_12_method_119_code
def yX10_isGone : MethodName := ⟨RX10, "isGone", "(II)Z"⟩
abbrev cX10_pollOf : ByteArray := prog_12_method_120_code
def yX10_pollOf : MethodName := ⟨RX10, "pollOf", "(III)I"⟩
abbrev cX10_keepWay : ByteArray := prog_12_method_121_code
def yX10_keepWay : MethodName := ⟨RX10, "keepWay", "(I)V"⟩
abbrev cX10_way : ByteArray := prog_12_method_122_code
def yX10_way : MethodName := ⟨RX10, "way", "(II)I"⟩
abbrev cX10_leg : ByteArray := prog_12_method_123_code
def yX10_leg : MethodName := ⟨RX10, "leg", "(II)I"⟩
abbrev cX10_choose : ByteArray := prog_12_method_124_code
def yX10_choose : MethodName := ⟨RX10, "choose", "(II)J"⟩
abbrev cX10_mayBe : ByteArray := prog_12_method_125_code
def yX10_mayBe : MethodName := ⟨RX10, "mayBe", "(IIII)Z"⟩
abbrev cX10_doors : ByteArray := prog_12_method_126_code
def yX10_doors : MethodName := ⟨RX10, "doors", "(IIII)I"⟩
abbrev cX10_addBooth : ByteArray := prog_12_method_127_code
def yX10_addBooth : MethodName := ⟨RX10, "addBooth", "(I)V"⟩
abbrev cX10_seal : ByteArray := prog_12_method_128_code
def yX10_seal : MethodName := ⟨RX10, "seal", "(I)I"⟩
abbrev cX10_alter : ByteArray := prog_12_method_129_code
def yX10_alter : MethodName := ⟨RX10, "alter", "(II)I"⟩
abbrev cX10_found : ByteArray := prog_12_method_130_code
def yX10_found : MethodName := ⟨RX10, "found", "(I)I"⟩
abbrev cX10_all : ByteArray := prog_12_method_131_code
def yX10_all : MethodName := ⟨RX10, "all", "(I)I"⟩
abbrev cX10_status : ByteArray := prog_12_method_132_code
def yX10_status : MethodName := ⟨RX10, "status", "()I"⟩
def RJ6 : String := "java/lang/Integer"
abbrev cJ6_numberOfTrailingZeros_0f7a4 : ByteArray := prog_13_method_48_code
def yJ6_numberOfTrailingZeros_0f7a4 : MethodName := ⟨RJ6, "numberOfTrailingZeros", "(I)I"⟩
def RJ9 : String := "java/lang/Math"
abbrev cJ9_abs_0f7a4 : ByteArray := prog_14_method_59_code
def yJ9_abs_0f7a4 : MethodName := ⟨RJ9, "abs", "(I)I"⟩
abbrev cJ9_max_7cf53 : ByteArray := prog_14_method_65_code
def yJ9_max_7cf53 : MethodName := ⟨RJ9, "max", "(II)I"⟩
abbrev cJ9_min_7cf53 : ByteArray := prog_14_method_69_code
def yJ9_min_7cf53 : MethodName := ⟨RJ9, "min", "(II)I"⟩
abbrev cJ9_min_f86c9 : ByteArray := prog_14_method_70_code
def yJ9_min_f86c9 : MethodName := ⟨RJ9, "min", "(JJ)J"⟩
def RJ0 : String := "java/lang/String"
abbrev cJ0_charAt_5068e : ByteArray := prog_15_method_56_code
def yJ0_charAt_5068e : MethodName := ⟨RJ0, "charAt", "(I)C"⟩
abbrev cJ0_isLatin1_aae02 : ByteArray := prog_15_method_154_code
def yJ0_isLatin1_aae02 : MethodName := ⟨RJ0, "isLatin1", "()Z"⟩
abbrev cJ0_checkIndex_df160 : ByteArray := prog_15_method_155_code
def yJ0_checkIndex_df160 : MethodName := ⟨RJ0, "checkIndex", "(II)V"⟩
def RJ1 : String := "java/lang/StringLatin1"
abbrev cJ1_charAt_3b067 : ByteArray := prog_16_method_2_code
def yJ1_charAt_3b067 : MethodName := ⟨RJ1, "charAt", "([BI)C"⟩
def RJ2 : String := "java/lang/StringUTF16"
abbrev cJ2_getChar_3b067 : ByteArray := prog_17_method_5_code
def yJ2_getChar_3b067 : MethodName := ⟨RJ2, "getChar", "([BI)C"⟩
abbrev cJ2_length_9d52b : ByteArray := prog_17_method_6_code
def yJ2_length_9d52b : MethodName := ⟨RJ2, "length", "([B)I"⟩
abbrev cJ2_charAt_3b067 : ByteArray := prog_17_method_83_code
def yJ2_charAt_3b067 : MethodName := ⟨RJ2, "charAt", "([BI)C"⟩
abbrev cJ2_checkIndex_2214a : ByteArray := prog_17_method_91_code
def yJ2_checkIndex_2214a : MethodName := ⟨RJ2, "checkIndex", "(I[B)V"⟩
def RJ10 : String := "java/lang/System"
def RJ7 : String := "java/util/Arrays"
abbrev cJ7_fill_d0a16 : ByteArray := prog_19_method_101_code
def yJ7_fill_d0a16 : MethodName := ⟨RJ7, "fill", "([JJ)V"⟩
abbrev cJ7_fill_53178 : ByteArray := prog_19_method_103_code
def yJ7_fill_53178 : MethodName := ⟨RJ7, "fill", "([II)V"⟩
def RJ3 : String := "jdk/internal/util/Preconditions"
abbrev cJ3_checkIndex_8e157 : ByteArray := prog_20_method_11_code
def yJ3_checkIndex_8e157 : MethodName := ⟨RJ3, "checkIndex", "(IILjava/util/function/BiFunction;)I"⟩
def RL : String := "FirstPollsLaw"
abbrev cL_law : ByteArray := code
def yL_law : MethodName := ⟨RL, "law", "([I)Z"⟩
abbrev vwCl : List vw_C := [(RX0, TX0, 3), (RX1, TX1, 10), (RX2, TX2, 14), (RX3, TX3, 12), (RX4, TX4, 12), (RX5, TX5, 4), (RX6, TX6, 15), (RX7, TX7, 14), (RX8, TX8, 5), (RX9, TX9, 9), (RX10, TX10, 62)]
end
section
/-! ===== numbers in bounds, names (tokens) for numbers, cells of these: what a state of the machine is held to be ===== -/
abbrev ai_V : Type := Nat × Nat × Int × Int
abbrev ai_C : Type := (Nat × List ai_V) ⊕ (Nat × Nat × ai_V × List (Nat × ai_V))
abbrev ai_W : Type := List ai_C
abbrev ai_G : Type := List (Int × Int × Nat)
abbrev ai_L : Type := List (Nat × ai_V)
def ai_F2 {α β : Type} (R : α → β → Prop) : List α → List β → Prop
  | [], [] => True
  | a :: as, b :: bs => R a b ∧ ai_F2 R as bs
  | _, _ => False
theorem ai_F2.cons {α β : Type} {R : α → β → Prop} {a : α} {as : List α} {l : List β} (h : ai_F2 R (a :: as) l) : ∃ b bs, l = b :: bs ∧ R a b ∧ ai_F2 R as bs := by
  cases l with
  | nil => exact h.elim
  | cons b bs => exact ⟨b, bs, rfl, h.1, h.2⟩
theorem ai_F2.nil {α β : Type} {R : α → β → Prop} {l : List β} (h : ai_F2 R [] l) : l = [] := by
  cases l with
  | nil => rfl
  | cons b bs => exact h.elim
theorem ai_F2.mono {α β : Type} {R S : α → β → Prop} (hR : ∀ a b, R a b → S a b) : ∀ {l1 : List α} {l2 : List β}, ai_F2 R l1 l2 → ai_F2 S l1 l2
  | [], [], _ => trivial
  | _ :: _, _ :: _, h => ⟨hR _ _ h.1, ai_F2.mono hR h.2⟩
  | [], _ :: _, h => h.elim
  | _ :: _, [], h => h.elim
theorem ai_F2.len {α β : Type} {R : α → β → Prop} : ∀ {l1 : List α} {l2 : List β}, ai_F2 R l1 l2 → l1.length = l2.length
  | [], [], _ => rfl
  | _ :: _, _ :: _, h => congrArg (· + 1) (ai_F2.len h.2)
  | [], _ :: _, h => h.elim
  | _ :: _, [], h => h.elim
theorem ai_F2.get {α β : Type} {R : α → β → Prop} : ∀ {l1 : List α} {l2 : List β} {k : Nat} {a : α}, ai_F2 R l1 l2 → l1[k]? = some a → ∃ b, l2[k]? = some b ∧ R a b
  | [], [], _, _, _, hk => by simp at hk
  | x :: as, y :: bs, 0, a, h, hk => by
    have e : x = a := by simpa using hk
    exact ⟨y, rfl, e ▸ h.1⟩
  | x :: as, y :: bs, k + 1, a, h, hk => by
    have hk' : as[k]? = some a := by simpa using hk
    obtain ⟨b, h1, h2⟩ := ai_F2.get h.2 hk'
    exact ⟨b, by simpa using h1, h2⟩
  | [], _ :: _, _, _, h, _ => h.elim
  | _ :: _, [], _, _, h, _ => h.elim
theorem ai_F2.set {α β : Type} {R : α → β → Prop} {a : α} {b : β} (hR : R a b) : ∀ {l1 : List α} {l2 : List β} {k : Nat}, ai_F2 R l1 l2 → ai_F2 R (l1.set k a) (l2.set k b)
  | [], [], _, _ => trivial
  | _ :: _, _ :: _, 0, h => ⟨hR, h.2⟩
  | _ :: _, _ :: _, _ + 1, h => ⟨h.1, ai_F2.set hR h.2⟩
  | [], _ :: _, _, h => h.elim
  | _ :: _, [], _, h => h.elim
theorem ai_F2.app {α β : Type} {R : α → β → Prop} : ∀ {l1 : List α} {l2 : List β} {m1 : List α} {m2 : List β}, ai_F2 R l1 l2 → ai_F2 R m1 m2 → ai_F2 R (l1 ++ m1) (l2 ++ m2)
  | [], [], _, _, _, h => h
  | _ :: _, _ :: _, _, _, h, h2 => ⟨h.1, ai_F2.app h.2 h2⟩
  | [], _ :: _, _, _, h, _ => h.elim
  | _ :: _, [], _, _, h, _ => h.elim
theorem ai_F2.rev {α β : Type} {R : α → β → Prop} : ∀ {l1 : List α} {l2 : List β}, ai_F2 R l1 l2 → ai_F2 R l1.reverse l2.reverse
  | [], [], _ => trivial
  | _ :: _, _ :: _, h => by
    rw [List.reverse_cons, List.reverse_cons]
    exact ai_F2.app (ai_F2.rev h.2) ⟨h.1, trivial⟩
  | [], _ :: _, h => h.elim
  | _ :: _, [], h => h.elim
theorem ai_F2.take {α β : Type} {R : α → β → Prop} : ∀ {l1 : List α} {l2 : List β} (n : Nat), ai_F2 R l1 l2 → ai_F2 R (l1.take n) (l2.take n)
  | [], [], _, _ => by simp [ai_F2]
  | _ :: _, _ :: _, 0, _ => trivial
  | _ :: _, _ :: _, n + 1, h => ⟨h.1, ai_F2.take n h.2⟩
  | [], _ :: _, _, h => h.elim
  | _ :: _, [], _, h => h.elim
theorem ai_F2.drop {α β : Type} {R : α → β → Prop} : ∀ {l1 : List α} {l2 : List β} (n : Nat), ai_F2 R l1 l2 → ai_F2 R (l1.drop n) (l2.drop n)
  | [], [], _, _ => by simp [ai_F2]
  | _ :: _, _ :: _, 0, h => h
  | _ :: _, _ :: _, n + 1, h => ai_F2.drop n h.2
  | [], _ :: _, _, h => h.elim
  | _ :: _, [], _, h => h.elim
theorem ai_F2.filt {α β : Type} {R : α → β → Prop} {f : α → Bool} {g : β → Bool} (hfg : ∀ a b, R a b → f a = g b) : ∀ {l1 : List α} {l2 : List β}, ai_F2 R l1 l2 → ai_F2 R (l1.filter f) (l2.filter g)
  | [], [], _ => trivial
  | a :: _, b :: _, h => by
    rw [List.filter_cons, List.filter_cons, hfg a b h.1]
    cases g b with
    | false => exact ai_F2.filt hfg h.2
    | true => exact ⟨h.1, ai_F2.filt hfg h.2⟩
  | [], _ :: _, h => h.elim
  | _ :: _, [], h => h.elim
/-- a token's number: none, if it isn't told yet -/
abbrev ai_Rh : Type := Nat → Option Int
/-- what a held value says of a value: 0, 1: an int, a long in bounds; 2, 3: an int, a long that is a token's number times the fourth and the third more; 4: the cell of that place; 5: null; 6: an int whose low byte is the token's; 7: the script; 8: an int from the third on to the token's number and the fourth more -/
def ai_mt (ρ : ai_Rh) (sb : Nat) (ad : List Nat) (a : ai_V) (v : Value) : Prop := match a with
  | (0, _, l, h) => ∃ x : Int32, v = .int x ∧ l ≤ x.toInt ∧ x.toInt ≤ h
  | (1, _, l, h) => ∃ x : Int64, v = .long x ∧ l ≤ x.toInt ∧ x.toInt ≤ h
  | (2, t, c, m) => ∃ (x : Int32) (z : Int), v = .int x ∧ ρ t = some z ∧ x.toInt = m * z + c
  | (3, t, c, m) => ∃ (x : Int64) (z : Int), v = .long x ∧ ρ t = some z ∧ x.toInt = m * z + c
  | (4, k, _, _) => ∃ q, ad[k]? = some q ∧ v = .ref q
  | (5, _, _, _) => v = .null
  | (6, t, _, _) => ∃ (x : Int32) (z : Int), v = .int x ∧ ρ t = some z ∧ (x &&& 255).toInt = z
  | (7, _, _, _) => v = .ref sb
  | (8, t, l, c) => ∃ (x : Int32) (z : Int), v = .int x ∧ ρ t = some z ∧ l ≤ x.toInt ∧ x.toInt ≤ z + c
  | _ => False
def ai_le (ρ σ : ai_Rh) : Prop := ∀ t z, ρ t = some z → σ t = some z
theorem ai_le.rf {ρ : ai_Rh} : ai_le ρ ρ := fun _ _ h => h
theorem ai_le.tr {ρ σ τ : ai_Rh} (h : ai_le ρ σ) (g : ai_le σ τ) : ai_le ρ τ := fun t z q => g t z (h t z q)
/-- kinds of numbers: where a row of the reference's begins -/
def ai_kp (k : Nat) (z : Int) : Prop := match k with
  | 1 => ∃ p : Nat, p < 16 ∧ z = 20 + 3 * p
  | 2 => ∃ p : Nat, p < 200 ∧ z = 68 + 11 * p
  | 3 => ∃ p : Nat, p < 20 ∧ z = 5056 + 898 * p
  | 4 => ∃ p q : Nat, p < 20 ∧ q < 12 ∧ z = 5058 + 898 * p + 8 * q
  | _ => True
def ai_gok (ρ : ai_Rh) (G : ai_G) : Prop := ∀ t, match G[t]? with
  | some q => ∃ z, ρ t = some z ∧ q.1 ≤ z ∧ z ≤ q.2.1 ∧ ai_kp q.2.2 z
  | none => ρ t = none
theorem ai_gok.at {ρ : ai_Rh} {G : ai_G} (h : ai_gok ρ G) {t : Nat} {q : Int × Int × Nat} (hq : G[t]? = some q) : ∃ z, ρ t = some z ∧ q.1 ≤ z ∧ z ≤ q.2.1 ∧ ai_kp q.2.2 z := by
  have := h t
  rw [hq] at this
  exact this
theorem ai_gok.get {ρ : ai_Rh} {G : ai_G} (h : ai_gok ρ G) {t : Nat} {z : Int} (hz : ρ t = some z) : ∃ q, G[t]? = some q ∧ q.1 ≤ z ∧ z ≤ q.2.1 ∧ ai_kp q.2.2 z := by
  have := h t
  cases hq : G[t]? with
  | none => rw [hq] at this; rw [this] at hz; cases hz
  | some q =>
    rw [hq] at this
    obtain ⟨z', h1, h2⟩ := this
    cases h1.symm.trans hz
    exact ⟨q, rfl, h2⟩
/-- a token more -/
def ai_more (ρ : ai_Rh) (n : Nat) (z : Int) : ai_Rh := fun t => if t = n then some z else ρ t
theorem ai_more_le {ρ : ai_Rh} {G : ai_G} (h : ai_gok ρ G) (z : Int) : ai_le ρ (ai_more ρ G.length z) := by
  intro t w hw
  unfold ai_more
  by_cases e : t = G.length
  · subst e
    have := h G.length
    rw [List.getElem?_eq_none (Nat.le_refl _)] at this
    rw [this] at hw
    cases hw
  · rw [if_neg e]; exact hw
theorem ai_more_ok {ρ : ai_Rh} {G : ai_G} {q : Int × Int × Nat} (h : ai_gok ρ G) {z : Int} (h1 : q.1 ≤ z) (h2 : z ≤ q.2.1) (h3 : ai_kp q.2.2 z) : ai_gok (ai_more ρ G.length z) (G ++ [q]) := by
  intro t
  unfold ai_more
  by_cases e : t = G.length
  · subst e
    simp [h1, h2, h3]
  · rw [if_neg e]
    by_cases hl : t < G.length
    · rw [List.getElem?_append_left hl]; exact h t
    · rw [List.getElem?_eq_none (by simp; omega)]
      have := h t
      rw [List.getElem?_eq_none (by omega)] at this
      exact this
theorem ai_more_at {ρ : ai_Rh} {n : Nat} {z : Int} : ai_more ρ n z n = some z := by unfold ai_more; rw [if_pos rfl]
def ai_big : Int × Int := (-9223372036854775808, 9223372036854775807)
def ai_full : ai_V := (0, 0, -2147483648, 2147483647)
def ai_fulll : ai_V := (1, 0, -9223372036854775808, 9223372036854775807)
def ai_aff (q : Option (Int × Int × Nat)) (c m : Int) : Int × Int := match q with
  | some q => bif decide (0 ≤ m) then (m * q.1 + c, m * q.2.1 + c) else (m * q.2.1 + c, m * q.1 + c)
  | none => ai_big
def ai_b (G : ai_G) (a : ai_V) : Int × Int := match a with
  | (0, _, l, h) => (l, h)
  | (1, _, l, h) => (l, h)
  | (2, t, c, m) => ai_aff G[t]? c m
  | (3, t, c, m) => ai_aff G[t]? c m
  | (8, t, l, c) => (l, (ai_aff G[t]? c 1).2)
  | _ => ai_big
def ai_isI (a : ai_V) : Bool := a.1 == 0 || a.1 == 2 || a.1 == 6 || a.1 == 8
def ai_isL (a : ai_V) : Bool := a.1 == 1 || a.1 == 3
def ai_isR (a : ai_V) : Bool := a.1 == 4
def ai_cat (a : ai_V) : Nat := if a.1 == 1 || a.1 == 3 then 2 else 1
theorem ai_i32 (x : Int32) : -2147483648 ≤ x.toInt ∧ x.toInt ≤ 2147483647 := by
  have h1 := Int32.le_toInt x
  have h2 := Int32.toInt_lt x
  constructor <;> omega
theorem ai_i64 (x : Int64) : -9223372036854775808 ≤ x.toInt ∧ x.toInt ≤ 9223372036854775807 := by
  have h1 := Int64.le_toInt x
  have h2 := Int64.toInt_lt x
  constructor <;> omega
theorem ai_aff_ok {ρ : ai_Rh} {G : ai_G} (hG : ai_gok ρ G) {t : Nat} {z c m : Int} (hz : ρ t = some z) : (ai_aff G[t]? c m).1 ≤ m * z + c ∧ m * z + c ≤ (ai_aff G[t]? c m).2 := by
  obtain ⟨q, hq, h1, h2, -⟩ := hG.get hz
  rw [hq]
  unfold ai_aff
  cases hm : decide (0 ≤ m) with
  | true =>
    simp only [decide_eq_true_eq] at hm
    have e1 := Int.mul_le_mul_of_nonneg_left h1 hm
    have e2 := Int.mul_le_mul_of_nonneg_left h2 hm
    constructor <;> (dsimp only [cond_true]; omega)
  | false =>
    simp only [decide_eq_false_iff_not] at hm
    have e1 := Int.mul_le_mul_of_nonpos_left (show m ≤ 0 by omega) h1
    have e2 := Int.mul_le_mul_of_nonpos_left (show m ≤ 0 by omega) h2
    constructor <;> (dsimp only [cond_false]; omega)
theorem ai_int {ρ : ai_Rh} {sb : Nat} {ad : List Nat} {G : ai_G} {a : ai_V} {v : Value} (hG : ai_gok ρ G) (h : ai_mt ρ sb ad a v) (hi : ai_isI a = true) : ∃ x : Int32, v = .int x ∧ (ai_b G a).1 ≤ x.toInt ∧ x.toInt ≤ (ai_b G a).2 := by
  obtain ⟨n, t, l, u⟩ := a
  match n, h, hi with
  | 0, h, _ => exact h
  | 2, h, _ =>
    obtain ⟨x, z, e1, e2, e3⟩ := h
    have := ai_aff_ok hG (c := l) (m := u) e2
    exact ⟨x, e1, by rw [e3]; exact this.1, by rw [e3]; exact this.2⟩
  | 6, h, _ =>
    obtain ⟨x, z, e1, e2, -⟩ := h
    have := ai_i32 x
    refine ⟨x, e1, ?_⟩
    show (-9223372036854775808 : Int) ≤ x.toInt ∧ x.toInt ≤ 9223372036854775807
    constructor <;> omega
  | 8, h, _ =>
    obtain ⟨x, z, e1, e2, e3, e4⟩ := h
    have := ai_aff_ok hG (c := u) (m := 1) e2
    exact ⟨x, e1, e3, Int.le_trans e4 (by have := this.2; rw [Int.one_mul] at this; exact this)⟩
  | 1, _, hi => simp [ai_isI] at hi
  | 3, _, hi => simp [ai_isI] at hi
  | 4, _, hi => simp [ai_isI] at hi
  | 5, _, hi => simp [ai_isI] at hi
  | 7, _, hi => simp [ai_isI] at hi
  | n + 9, _, hi => simp [ai_isI] at hi
theorem ai_lng {ρ : ai_Rh} {sb : Nat} {ad : List Nat} {G : ai_G} {a : ai_V} {v : Value} (hG : ai_gok ρ G) (h : ai_mt ρ sb ad a v) (hi : ai_isL a = true) : ∃ x : Int64, v = .long x ∧ (ai_b G a).1 ≤ x.toInt ∧ x.toInt ≤ (ai_b G a).2 := by
  obtain ⟨n, t, l, u⟩ := a
  match n, h, hi with
  | 1, h, _ => exact h
  | 3, h, _ =>
    obtain ⟨x, z, e1, e2, e3⟩ := h
    have := ai_aff_ok hG (c := l) (m := u) e2
    exact ⟨x, e1, by rw [e3]; exact this.1, by rw [e3]; exact this.2⟩
  | 0, _, hi => simp [ai_isL] at hi
  | 2, _, hi => simp [ai_isL] at hi
  | n + 4, _, hi => simp [ai_isL] at hi
theorem ai_ref {ρ : ai_Rh} {sb : Nat} {ad : List Nat} {a : ai_V} {v : Value} (h : ai_mt ρ sb ad a v) (hi : ai_isR a = true) : ∃ q, ad[a.2.1]? = some q ∧ v = .ref q := by
  obtain ⟨n, t, l, u⟩ := a
  match n, h, hi with
  | 4, h, _ => exact h
  | 0, _, hi => simp [ai_isR] at hi
  | 1, _, hi => simp [ai_isR] at hi
  | 2, _, hi => simp [ai_isR] at hi
  | 3, _, hi => simp [ai_isR] at hi
  | n + 5, _, hi => simp [ai_isR] at hi
theorem ai_mt.cat {ρ : ai_Rh} {sb : Nat} {ad : List Nat} {a : ai_V} {v : Value} (h : ai_mt ρ sb ad a v) : v.category = ai_cat a := by
  obtain ⟨n, t, l, u⟩ := a
  match n, h with
  | 0, h => obtain ⟨x, rfl, -⟩ := h; rfl
  | 1, h => obtain ⟨x, rfl, -⟩ := h; rfl
  | 2, h => obtain ⟨x, z, rfl, -⟩ := h; rfl
  | 3, h => obtain ⟨x, z, rfl, -⟩ := h; rfl
  | 4, h => obtain ⟨q, -, rfl⟩ := h; rfl
  | 5, h => cases h; rfl
  | 6, h => obtain ⟨x, z, rfl, -⟩ := h; rfl
  | 7, h => cases h; rfl
  | 8, h => obtain ⟨x, z, rfl, -⟩ := h; rfl
  | n + 9, h => exact h.elim
/-- more cells, more tokens -/
theorem ai_mt.more {ρ σ : ai_Rh} {sb : Nat} {ad : List Nat} {a : ai_V} {v : Value} (hr : ai_le ρ σ) (x : List Nat) (h : ai_mt ρ sb ad a v) : ai_mt σ sb (ad ++ x) a v := by
  obtain ⟨n, t, l, u⟩ := a
  match n, h with
  | 0, h => exact h
  | 1, h => exact h
  | 2, h => obtain ⟨x, z, h1, h2, h3⟩ := h; exact ⟨x, z, h1, hr _ _ h2, h3⟩
  | 3, h => obtain ⟨x, z, h1, h2, h3⟩ := h; exact ⟨x, z, h1, hr _ _ h2, h3⟩
  | 4, h =>
    obtain ⟨q, h1, h2⟩ := h
    exact ⟨q, by rw [List.getElem?_append_left (List.getElem?_eq_some_iff.mp h1).1]; exact h1, h2⟩
  | 5, h => exact h
  | 6, h => obtain ⟨x, z, h1, h2, h3⟩ := h; exact ⟨x, z, h1, hr _ _ h2, h3⟩
  | 7, h => exact h
  | 8, h => obtain ⟨x, z, h1, h2, h3⟩ := h; exact ⟨x, z, h1, hr _ _ h2, h3⟩
  | n + 9, h => exact h.elim
theorem ai_mt.up {ρ σ : ai_Rh} {sb : Nat} {ad : List Nat} {a : ai_V} {v : Value} (hr : ai_le ρ σ) (h : ai_mt ρ sb ad a v) : ai_mt σ sb ad a v := by
  have := ai_mt.more hr [] h
  rw [List.append_nil] at this
  exact this
/-- a held value whose tokens were told already says the same with fewer -/
theorem ai_mt.down {ρ σ : ai_Rh} {sb : Nat} {ad : List Nat} {a : ai_V} {v w : Value} (hr : ai_le ρ σ) (h0 : ai_mt ρ sb ad a w) (h : ai_mt σ sb ad a v) : ai_mt ρ sb ad a v := by
  have key : ∀ {t : Nat} {z z' : Int}, ρ t = some z → σ t = some z' → ρ t = some z' := fun h1 h2 => by
    have := hr _ _ h1
    rw [h2] at this
    cases this
    exact h1
  obtain ⟨n, t, l, u⟩ := a
  match n, h0, h with
  | 0, _, h => exact h
  | 1, _, h => exact h
  | 2, h0, h => obtain ⟨_, z0, _, g, _⟩ := h0; obtain ⟨x, z, h1, h2, h3⟩ := h; exact ⟨x, z, h1, key g h2, h3⟩
  | 3, h0, h => obtain ⟨_, z0, _, g, _⟩ := h0; obtain ⟨x, z, h1, h2, h3⟩ := h; exact ⟨x, z, h1, key g h2, h3⟩
  | 4, _, h => exact h
  | 5, _, h => exact h
  | 6, h0, h => obtain ⟨_, z0, _, g, _⟩ := h0; obtain ⟨x, z, h1, h2, h3⟩ := h; exact ⟨x, z, h1, key g h2, h3⟩
  | 7, _, h => exact h
  | 8, h0, h => obtain ⟨_, z0, _, g, _⟩ := h0; obtain ⟨x, z, h1, h2, h3⟩ := h; exact ⟨x, z, h1, key g h2, h3⟩
  | n + 9, _, h => exact h.elim
end
section
/-! ===== what the instructions do to numbers in bounds ===== -/
def ai_lI (z : Int) : ai_V := (0, 0, z, z)
def ai_lL (z : Int) : ai_V := (1, 0, z, z)
def ai_mI (l h : Int) : ai_V := bif decide (-2147483648 ≤ l) && decide (h ≤ 2147483647) then (0, 0, l, h) else ai_full
def ai_mL (l h : Int) : ai_V := bif decide (-9223372036854775808 ≤ l) && decide (h ≤ 9223372036854775807) then (1, 0, l, h) else ai_fulll
theorem ai_bm32 {z : Int} (h1 : -2147483648 ≤ z) (h2 : z ≤ 2147483647) : z.bmod 4294967296 = z := by
  unfold Int.bmod
  dsimp only
  split <;> omega
theorem ai_bm64 {z : Int} (h1 : -9223372036854775808 ≤ z) (h2 : z ≤ 9223372036854775807) : z.bmod 18446744073709551616 = z := by
  unfold Int.bmod
  dsimp only
  split <;> omega
section AIO
variable {ρ : ai_Rh} {sb : Nat} {ad : List Nat}
theorem ai_full_ok (x : Int32) : ai_mt ρ sb ad ai_full (.int x) := ⟨x, rfl, (ai_i32 x).1, (ai_i32 x).2⟩
theorem ai_fulll_ok (x : Int64) : ai_mt ρ sb ad ai_fulll (.long x) := ⟨x, rfl, (ai_i64 x).1, (ai_i64 x).2⟩
theorem ai_mI_ok {x : Int32} {z l h : Int} (hz : x.toInt = z.bmod 4294967296) (h1 : l ≤ z) (h2 : z ≤ h) : ai_mt ρ sb ad (ai_mI l h) (.int x) := by
  unfold ai_mI
  cases hc : (decide (-2147483648 ≤ l) && decide (h ≤ 2147483647)) with
  | false => exact ai_full_ok x
  | true =>
    simp only [Bool.and_eq_true, decide_eq_true_eq] at hc
    rw [ai_bm32 (by omega) (by omega)] at hz
    exact ⟨x, rfl, by omega, by omega⟩
theorem ai_mL_ok {x : Int64} {z l h : Int} (hz : x.toInt = z.bmod 18446744073709551616) (h1 : l ≤ z) (h2 : z ≤ h) : ai_mt ρ sb ad (ai_mL l h) (.long x) := by
  unfold ai_mL
  cases hc : (decide (-9223372036854775808 ≤ l) && decide (h ≤ 9223372036854775807)) with
  | false => exact ai_fulll_ok x
  | true =>
    simp only [Bool.and_eq_true, decide_eq_true_eq] at hc
    rw [ai_bm64 (by omega) (by omega)] at hz
    exact ⟨x, rfl, by omega, by omega⟩
theorem ai_lI_ok (x : Int32) : ai_mt ρ sb ad (ai_lI x.toInt) (.int x) := ⟨x, rfl, Int.le_refl _, Int.le_refl _⟩
theorem ai_lL_ok (x : Int64) : ai_mt ρ sb ad (ai_lL x.toInt) (.long x) := ⟨x, rfl, Int.le_refl _, Int.le_refl _⟩
end AIO
def ai_mn (a b : Int) : Int := bif decide (a ≤ b) then a else b
def ai_mx (a b : Int) : Int := bif decide (a ≤ b) then b else a
theorem ai_mn_le (a b : Int) : ai_mn a b ≤ a ∧ ai_mn a b ≤ b := by
  unfold ai_mn
  cases h : decide (a ≤ b) with
  | true => simp only [decide_eq_true_eq] at h; exact ⟨Int.le_refl _, h⟩
  | false => simp only [decide_eq_false_iff_not] at h; exact ⟨by simp only [cond_false]; omega, Int.le_refl _⟩
theorem ai_mx_le (a b : Int) : a ≤ ai_mx a b ∧ b ≤ ai_mx a b := by
  unfold ai_mx
  cases h : decide (a ≤ b) with
  | true => simp only [decide_eq_true_eq] at h; exact ⟨h, Int.le_refl _⟩
  | false => simp only [decide_eq_false_iff_not] at h; exact ⟨Int.le_refl _, by simp only [cond_false]; omega⟩
def ai_mulB (A B : Int × Int) : Int × Int := (ai_mn (ai_mn (A.1 * B.1) (A.1 * B.2)) (ai_mn (A.2 * B.1) (A.2 * B.2)), ai_mx (ai_mx (A.1 * B.1) (A.1 * B.2)) (ai_mx (A.2 * B.1) (A.2 * B.2)))
theorem ai_mul1 {x y l h : Int} (h1 : l ≤ y) (h2 : y ≤ h) : (x * l ≤ x * y ∧ x * y ≤ x * h) ∨ (x * h ≤ x * y ∧ x * y ≤ x * l) := by
  rcases Int.le_total 0 x with hx | hx
  · exact Or.inl ⟨Int.mul_le_mul_of_nonneg_left h1 hx, Int.mul_le_mul_of_nonneg_left h2 hx⟩
  · exact Or.inr ⟨Int.mul_le_mul_of_nonpos_left hx h2, Int.mul_le_mul_of_nonpos_left hx h1⟩
theorem ai_mulB_ok {x y : Int} {A B : Int × Int} (hA : A.1 ≤ x ∧ x ≤ A.2) (hB : B.1 ≤ y ∧ y ≤ B.2) : (ai_mulB A B).1 ≤ x * y ∧ x * y ≤ (ai_mulB A B).2 := by
  have e1 := ai_mul1 (x := x) hB.1 hB.2
  have e2 := ai_mul1 (x := B.1) hA.1 hA.2
  have e3 := ai_mul1 (x := B.2) hA.1 hA.2
  rw [Int.mul_comm B.1, Int.mul_comm B.1, Int.mul_comm B.1] at e2
  rw [Int.mul_comm B.2, Int.mul_comm B.2, Int.mul_comm B.2] at e3
  have m1 := ai_mn_le (A.1 * B.1) (A.1 * B.2)
  have m2 := ai_mn_le (A.2 * B.1) (A.2 * B.2)
  have m3 := ai_mn_le (ai_mn (A.1 * B.1) (A.1 * B.2)) (ai_mn (A.2 * B.1) (A.2 * B.2))
  have n1 := ai_mx_le (A.1 * B.1) (A.1 * B.2)
  have n2 := ai_mx_le (A.2 * B.1) (A.2 * B.2)
  have n3 := ai_mx_le (ai_mx (A.1 * B.1) (A.1 * B.2)) (ai_mx (A.2 * B.1) (A.2 * B.2))
  unfold ai_mulB
  constructor <;> (dsimp only; omega)
/-- two numbers known whole: the instruction itself says -/
def ai_l2 (f : Int32 → Int32 → Int32) (A B : Int × Int) (d : ai_V) : ai_V := bif decide (A.1 = A.2) && decide (B.1 = B.2) then ai_lI (f (Int32.ofInt A.1) (Int32.ofInt B.1)).toInt else d
def ai_ll2 (f : Int64 → Int64 → Int64) (A B : Int × Int) : ai_V := bif decide (A.1 = A.2) && decide (B.1 = B.2) then ai_lL (f (Int64.ofInt A.1) (Int64.ofInt B.1)).toInt else ai_fulll
section AIP
variable {ρ : ai_Rh} {sb : Nat} {ad : List Nat}
theorem ai_l2_ok {f : Int32 → Int32 → Int32} {A B : Int × Int} {d : ai_V} {x y : Int32} (hA : A.1 ≤ x.toInt ∧ x.toInt ≤ A.2) (hB : B.1 ≤ y.toInt ∧ y.toInt ≤ B.2) (hd : ai_mt ρ sb ad d (.int (f x y))) : ai_mt ρ sb ad (ai_l2 f A B d) (.int (f x y)) := by
  unfold ai_l2
  cases hc : (decide (A.1 = A.2) && decide (B.1 = B.2)) with
  | false => exact hd
  | true =>
    simp only [Bool.and_eq_true, decide_eq_true_eq] at hc
    have e1 : Int32.ofInt A.1 = x := by rw [show A.1 = x.toInt by omega]; exact Int32.ofInt_toInt x
    have e2 : Int32.ofInt B.1 = y := by rw [show B.1 = y.toInt by omega]; exact Int32.ofInt_toInt y
    rw [e1, e2]
    exact ai_lI_ok _
theorem ai_ll2_ok {f : Int64 → Int64 → Int64} {A B : Int × Int} {x y : Int64} (hA : A.1 ≤ x.toInt ∧ x.toInt ≤ A.2) (hB : B.1 ≤ y.toInt ∧ y.toInt ≤ B.2) : ai_mt ρ sb ad (ai_ll2 f A B) (.long (f x y)) := by
  unfold ai_ll2
  cases hc : (decide (A.1 = A.2) && decide (B.1 = B.2)) with
  | false => exact ai_fulll_ok _
  | true =>
    simp only [Bool.and_eq_true, decide_eq_true_eq] at hc
    have e1 : Int64.ofInt A.1 = x := by rw [show A.1 = x.toInt by omega]; exact Int64.ofInt_toInt x
    have e2 : Int64.ofInt B.1 = y := by rw [show B.1 = y.toInt by omega]; exact Int64.ofInt_toInt y
    rw [e1, e2]
    exact ai_lL_ok _
end AIP
/-- the low byte of a token of the script shifted down, as a token of its own (only where the script has 7 numbers) -/
def ai_bt (L t : Nat) (s : Int) : Option Nat := bif L == 7 && (decide (t ≤ 6) && (decide (s = 0) || decide (s = 8) || decide (s = 16) || decide (s = 24))) then some (7 + 4 * t + s.toNat / 8) else none
def ai_rb (L : Nat) (ρ : ai_Rh) : Prop := L = 7 → ∀ (t : Nat) (s u : Nat) (x y : Int32), t ≤ 6 → ρ t = some x.toInt → (s = 0 ∨ s = 8 ∨ s = 16 ∨ s = 24) → y.toInt = s → u = 7 + 4 * t + s / 8 → ρ u = some ((x >>> (y &&& 31)) &&& 255).toInt ∧ ρ u = some (((x.toUInt32 >>> (y.toUInt32 &&& Int32.toUInt32 31)).toInt32) &&& 255).toInt ∧ t < 35 ∧ u < 35
def ai_rbg (L : Nat) (G : ai_G) : Prop := L = 7 → 35 ≤ G.length
theorem ai_rb.up {L : Nat} {ρ σ : ai_Rh} {G : ai_G} (hG : ai_gok ρ G) (hl : ai_rbg L G) (hr : ai_le ρ σ) (h : ai_rb L ρ) : ai_rb L σ := by
  intro hL t s u x y ht hx hs hy hu
  have hd : ∃ z, ρ t = some z := by
    have hlt : t < G.length := by have := hl hL; omega
    obtain ⟨z, hz, -⟩ := hG.at (List.getElem?_eq_getElem hlt)
    exact ⟨z, hz⟩
  obtain ⟨z, hz⟩ := hd
  have e := hr _ _ hz
  rw [hx] at e
  cases e
  obtain ⟨h1, h2, h3⟩ := h hL t s u x y ht hz hs hy hu
  exact ⟨hr _ _ h1, hr _ _ h2, h3⟩
/-- the bounds of an and, where one side isn't below 0 -/
def ai_andB (A B : Int × Int) : ai_V := bif decide (0 ≤ B.1) then (0, 0, 0, B.2) else bif decide (0 ≤ A.1) then (0, 0, 0, A.2) else ai_full
theorem ai_and_le {x y : Int32} (h : 0 ≤ y.toInt) : 0 ≤ (x &&& y).toInt ∧ (x &&& y).toInt ≤ y.toInt := by
  have e1 : (x &&& y).toInt = (x.toBitVec &&& y.toBitVec).toInt := rfl
  have e2 : y.toInt = y.toBitVec.toInt := rfl
  rw [e2] at h ⊢
  rw [e1]
  have hy : y.toBitVec.toNat < 2147483648 := by
    rw [BitVec.toInt_eq_toNat_cond] at h
    have := y.toBitVec.isLt
    split at h <;> omega
  have hl : (x.toBitVec &&& y.toBitVec).toNat ≤ y.toBitVec.toNat := by
    rw [BitVec.toNat_and]
    exact Nat.and_le_right
  rw [BitVec.toInt_eq_toNat_cond, BitVec.toInt_eq_toNat_cond]
  rw [if_pos (by omega), if_pos (by omega)]
  constructor <;> omega
theorem ai_andB_ok {ρ : ai_Rh} {sb : Nat} {ad : List Nat} {A B : Int × Int} {x y : Int32} (hA : A.1 ≤ x.toInt ∧ x.toInt ≤ A.2) (hB : B.1 ≤ y.toInt ∧ y.toInt ≤ B.2) : ai_mt ρ sb ad (ai_andB A B) (.int (x &&& y)) := by
  unfold ai_andB
  cases h1 : decide (0 ≤ B.1) with
  | true =>
    simp only [decide_eq_true_eq] at h1
    have := ai_and_le (x := x) (y := y) (by omega)
    exact ⟨_, rfl, this.1, by omega⟩
  | false =>
    cases h2 : decide (0 ≤ A.1) with
    | true =>
      simp only [decide_eq_true_eq] at h2
      have := ai_and_le (x := y) (y := x) (by omega)
      rw [show y &&& x = x &&& y from Int32.and_comm y x] at this
      exact ⟨_, rfl, this.1, by omega⟩
    | false => exact ai_full_ok _
/-- the bounds of an or, an xor of two numbers that aren't below 0: all bits of both -/
def ai_bits (n : Int) : Int := bif decide (n ≤ 127) then 127 else bif decide (n ≤ 65535) then 65535 else 2147483647
def ai_orB (A B : Int × Int) : ai_V := bif decide (0 ≤ A.1) && decide (0 ≤ B.1) then (0, 0, 0, ai_bits (ai_mx A.2 B.2)) else ai_full
/-- comparisons: 0 =, 1 not =, 2 <, 3 not <, 4 >, 5 not > -/
def ai_cP (op : Nat) (x y : Int) : Prop := match op with
  | 0 => x = y
  | 1 => ¬ x = y
  | 2 => x < y
  | 3 => ¬ x < y
  | 4 => y < x
  | _ => ¬ y < x
def ai_ng (op : Nat) : Nat := match op with
  | 0 => 1
  | 1 => 0
  | 2 => 3
  | 3 => 2
  | 4 => 5
  | _ => 4
theorem ai_ng_ok {op : Nat} {x y : Int} : ai_cP (ai_ng op) x y ↔ ¬ ai_cP op x y := by
  match op with
  | 0 => exact Iff.rfl
  | 1 => simp only [ai_ng, ai_cP]; omega
  | 2 => exact Iff.rfl
  | 3 => simp only [ai_ng, ai_cP]; omega
  | 4 => exact Iff.rfl
  | n + 5 => simp only [ai_ng, ai_cP]; omega
def ai_dlt (A B : Int × Int) : Option Bool := bif decide (A.2 < B.1) then some true else bif decide (B.2 ≤ A.1) then some false else none
def ai_deq (A B : Int × Int) : Option Bool := bif decide (A.1 = A.2) && (decide (B.1 = B.2) && decide (A.1 = B.1)) then some true else bif decide (A.2 < B.1) || decide (B.2 < A.1) then some false else none
def ai_dec (op : Nat) (A B : Int × Int) : Option Bool := match op with
  | 0 => ai_deq A B
  | 1 => (ai_deq A B).map not
  | 2 => ai_dlt A B
  | 3 => (ai_dlt A B).map not
  | 4 => ai_dlt B A
  | _ => (ai_dlt B A).map not
theorem ai_dlt_ok {A B : Int × Int} {x y : Int} {r : Bool} (hA : A.1 ≤ x ∧ x ≤ A.2) (hB : B.1 ≤ y ∧ y ≤ B.2) (h : ai_dlt A B = some r) : x < y ↔ r = true := by
  unfold ai_dlt at h
  cases h1 : decide (A.2 < B.1) with
  | true => rw [h1] at h; simp only [decide_eq_true_eq] at h1; cases h; simp; omega
  | false =>
    rw [h1] at h
    cases h2 : decide (B.2 ≤ A.1) with
    | true => rw [h2] at h; simp only [decide_eq_true_eq] at h2; cases h; simp; omega
    | false => rw [h2] at h; cases h
theorem ai_deq_ok {A B : Int × Int} {x y : Int} {r : Bool} (hA : A.1 ≤ x ∧ x ≤ A.2) (hB : B.1 ≤ y ∧ y ≤ B.2) (h : ai_deq A B = some r) : x = y ↔ r = true := by
  unfold ai_deq at h
  cases h1 : (decide (A.1 = A.2) && (decide (B.1 = B.2) && decide (A.1 = B.1))) with
  | true => rw [h1] at h; simp only [Bool.and_eq_true, decide_eq_true_eq] at h1; cases h; simp; omega
  | false =>
    rw [h1] at h
    cases h2 : (decide (A.2 < B.1) || decide (B.2 < A.1)) with
    | true => rw [h2] at h; simp only [Bool.or_eq_true, decide_eq_true_eq] at h2; cases h; simp; omega
    | false => rw [h2] at h; cases h
theorem ai_dec_ok {op : Nat} {A B : Int × Int} {x y : Int} {r : Bool} (hA : A.1 ≤ x ∧ x ≤ A.2) (hB : B.1 ≤ y ∧ y ≤ B.2) (h : ai_dec op A B = some r) : ai_cP op x y ↔ r = true := by
  have nn : ∀ {o : Option Bool} {P : Prop}, (∀ r, o = some r → (P ↔ r = true)) → o.map not = some r → (¬ P ↔ r = true) := by
    intro o P h1 h2
    cases o with
    | none => cases h2
    | some b =>
      have := h1 b rfl
      cases h2
      rw [this]
      cases b <;> simp
  match op with
  | 0 => exact ai_deq_ok hA hB h
  | 1 => exact nn (fun r => ai_deq_ok hA hB) h
  | 2 => exact ai_dlt_ok hA hB h
  | 3 => exact nn (fun r => ai_dlt_ok hA hB) h
  | 4 => exact ai_dlt_ok hB hA h
  | n + 5 => exact nn (fun r => ai_dlt_ok hB hA) h
/-- what a comparison that holds says of the left side's bounds -/
def ai_rf (op : Nat) (A B : Int × Int) : Int × Int := match op with
  | 0 => (ai_mx A.1 B.1, ai_mn A.2 B.2)
  | 1 => bif decide (B.1 = B.2) then (bif decide (A.1 = B.1) then (A.1 + 1, A.2) else bif decide (A.2 = B.1) then (A.1, A.2 - 1) else A) else A
  | 2 => (A.1, ai_mn A.2 (B.2 - 1))
  | 3 => (ai_mx A.1 B.1, A.2)
  | 4 => (ai_mx A.1 (B.1 + 1), A.2)
  | _ => (A.1, ai_mn A.2 B.2)
def ai_fl (op : Nat) : Nat := match op with
  | 0 => 0
  | 1 => 1
  | 2 => 4
  | 3 => 5
  | 4 => 2
  | _ => 3
theorem ai_fl_ok {op : Nat} {x y : Int} : ai_cP (ai_fl op) y x ↔ ai_cP op x y := by
  match op with
  | 0 => simp only [ai_fl, ai_cP]; omega
  | 1 => simp only [ai_fl, ai_cP]; omega
  | 2 => exact Iff.rfl
  | 3 => exact Iff.rfl
  | 4 => exact Iff.rfl
  | n + 5 => exact Iff.rfl
theorem ai_mn_ge {a b z : Int} (h1 : z ≤ a) (h2 : z ≤ b) : z ≤ ai_mn a b := by
  unfold ai_mn
  cases decide (a ≤ b) <;> assumption
theorem ai_mx_ge {a b z : Int} (h1 : a ≤ z) (h2 : b ≤ z) : ai_mx a b ≤ z := by
  unfold ai_mx
  cases decide (a ≤ b) <;> assumption
theorem ai_rf_ok {op : Nat} {A B : Int × Int} {x y : Int} (hA : A.1 ≤ x ∧ x ≤ A.2) (hB : B.1 ≤ y ∧ y ≤ B.2) (h : ai_cP op x y) : (ai_rf op A B).1 ≤ x ∧ x ≤ (ai_rf op A B).2 := by
  match op, h with
  | 0, h => simp only [ai_cP] at h; exact ⟨ai_mx_ge hA.1 (by omega), ai_mn_ge hA.2 (by omega)⟩
  | 1, h =>
    simp only [ai_cP] at h
    simp only [ai_rf]
    cases h1 : decide (B.1 = B.2) with
    | false => exact hA
    | true =>
      simp only [decide_eq_true_eq] at h1
      cases h2 : decide (A.1 = B.1) with
      | true => simp only [decide_eq_true_eq] at h2; exact ⟨by simp only [cond_true]; omega, hA.2⟩
      | false =>
        cases h3 : decide (A.2 = B.1) with
        | true => simp only [decide_eq_true_eq] at h3; exact ⟨hA.1, by simp only [cond_true, cond_false]; omega⟩
        | false => exact hA
  | 2, h => simp only [ai_cP] at h; exact ⟨hA.1, ai_mn_ge hA.2 (by omega)⟩
  | 3, h => simp only [ai_cP] at h; exact ⟨ai_mx_ge hA.1 (by omega), hA.2⟩
  | 4, h => simp only [ai_cP] at h; exact ⟨ai_mx_ge hA.1 (by omega), hA.2⟩
  | n + 5, h => simp only [ai_cP] at h; exact ⟨hA.1, ai_mn_ge hA.2 (by omega)⟩
def ai_tok (a : ai_V) : Bool := (a.1 == 2 || a.1 == 3) && decide (a.2.2.2 = 1)
def ai_gs (G : ai_G) (a : ai_V) (q : Int × Int) : ai_G := bif ai_tok a then (match G[a.2.1]? with
  | some r => G.set a.2.1 (q.1 - a.2.2.1, q.2 - a.2.2.1, r.2.2)
  | none => G) else G
def ai_ref2 (G : ai_G) (op : Nat) (a b : ai_V) : ai_G := ai_gs (ai_gs G a (ai_rf op (ai_b G a) (ai_b G b))) b (ai_rf (ai_fl op) (ai_b G b) (ai_b G a))
/-- the number that a held value of a number is -/
def ai_nm (ρ : ai_Rh) (a : ai_V) (x : Int) : Prop := (a.1 = 2 ∨ a.1 = 3) → ∃ z, ρ a.2.1 = some z ∧ x = a.2.2.2 * z + a.2.2.1
theorem ai_gs_ok {ρ : ai_Rh} {G : ai_G} {a : ai_V} {q : Int × Int} {z : Int} (hG : ai_gok ρ G) (hz : ai_nm ρ a z) (h1 : q.1 ≤ z) (h2 : z ≤ q.2) : ai_gok ρ (ai_gs G a q) := by
  unfold ai_gs
  cases ht : ai_tok a with
  | false => exact hG
  | true =>
    simp only [cond_true]
    cases hr : G[a.2.1]? with
    | none => exact hG
    | some r =>
      dsimp only
      unfold ai_tok at ht
      simp only [Bool.and_eq_true, Bool.or_eq_true, beq_iff_eq, decide_eq_true_eq] at ht
      obtain ⟨w, hw, e⟩ := hz ht.1
      obtain ⟨w', hw', -, -, hk⟩ := hG.at hr
      cases hw.symm.trans hw'
      rw [ht.2, Int.one_mul] at e
      intro t
      by_cases et : a.2.1 = t
      · subst et
        rw [List.getElem?_set_self (List.getElem?_eq_some_iff.mp hr).1]
        exact ⟨w, hw, by dsimp only; omega, by dsimp only; omega, hk⟩
      · rw [List.getElem?_set_ne et]
        exact hG t
theorem ai_gs_len (G : ai_G) (a : ai_V) (q : Int × Int) : (ai_gs G a q).length = G.length := by
  unfold ai_gs
  cases ai_tok a with
  | false => rfl
  | true =>
    simp only [cond_true]
    cases G[a.2.1]? with
    | none => rfl
    | some r => exact List.length_set
theorem ai_ref2_len (G : ai_G) (op : Nat) (a b : ai_V) : (ai_ref2 G op a b).length = G.length := by
  unfold ai_ref2
  rw [ai_gs_len, ai_gs_len]
theorem ai_ref2_ok {ρ : ai_Rh} {G : ai_G} {op : Nat} {a b : ai_V} {x y : Int} (hG : ai_gok ρ G) (hx : ai_nm ρ a x) (hy : ai_nm ρ b y) (hA : (ai_b G a).1 ≤ x ∧ x ≤ (ai_b G a).2) (hB : (ai_b G b).1 ≤ y ∧ y ≤ (ai_b G b).2) (h : ai_cP op x y) : ai_gok ρ (ai_ref2 G op a b) := by
  have r1 := ai_rf_ok hA hB h
  have r2 := ai_rf_ok hB hA (ai_fl_ok.mpr h)
  exact ai_gs_ok (ai_gs_ok hG hx r1.1 r1.2) hy r2.1 r2.2
theorem ai_int' {ρ : ai_Rh} {sb : Nat} {ad : List Nat} {G : ai_G} {a : ai_V} {v : Value} (hG : ai_gok ρ G) (h : ai_mt ρ sb ad a v) (hi : ai_isI a = true) : ∃ x : Int32, v = .int x ∧ ((ai_b G a).1 ≤ x.toInt ∧ x.toInt ≤ (ai_b G a).2) ∧ ai_nm ρ a x.toInt := by
  obtain ⟨x, e1, e2, e3⟩ := ai_int hG h hi
  refine ⟨x, e1, ⟨e2, e3⟩, fun ht => ?_⟩
  obtain ⟨n, t, l, u⟩ := a
  dsimp only at ht
  rcases ht with rfl | rfl
  · obtain ⟨y, z, f1, f2, f3⟩ := h
    cases e1.symm.trans f1
    exact ⟨z, f2, f3⟩
  · simp [ai_isI] at hi
theorem ai_lng' {ρ : ai_Rh} {sb : Nat} {ad : List Nat} {G : ai_G} {a : ai_V} {v : Value} (hG : ai_gok ρ G) (h : ai_mt ρ sb ad a v) (hi : ai_isL a = true) : ∃ x : Int64, v = .long x ∧ ((ai_b G a).1 ≤ x.toInt ∧ x.toInt ≤ (ai_b G a).2) ∧ ai_nm ρ a x.toInt := by
  obtain ⟨x, e1, e2, e3⟩ := ai_lng hG h hi
  refine ⟨x, e1, ⟨e2, e3⟩, fun ht => ?_⟩
  obtain ⟨n, t, l, u⟩ := a
  dsimp only at ht
  rcases ht with rfl | rfl
  · simp [ai_isL] at hi
  · obtain ⟨y, z, f1, f2, f3⟩ := h
    cases e1.symm.trans f1
    exact ⟨z, f2, f3⟩
/-- a token's number and a number known whole, where the sum (the product) is in bounds -/
def ai_adA (tg : Nat) (lo hi : Int) (G : ai_G) (a : ai_V) (z : Int) : Option ai_V := bif a.1 == tg && (decide (lo ≤ (ai_b G a).1 + z) && decide ((ai_b G a).2 + z ≤ hi)) then some (tg, a.2.1, a.2.2.1 + z, a.2.2.2) else none
def ai_muA (tg : Nat) (lo hi : Int) (G : ai_G) (a : ai_V) (z : Int) : Option ai_V := bif a.1 == tg && (decide (lo ≤ (ai_mulB (ai_b G a) (z, z)).1) && decide ((ai_mulB (ai_b G a) (z, z)).2 ≤ hi)) then some (tg, a.2.1, a.2.2.1 * z, a.2.2.2 * z) else none
def ai_wh (G : ai_G) (b : ai_V) : Option Int := bif decide ((ai_b G b).1 = (ai_b G b).2) then some (ai_b G b).1 else none
def ai_or (a : Option ai_V) (b : ai_V) : ai_V := match a with
  | some v => v
  | none => b
/-- division and its rest, of what isn't below 0 by what is above 0 -/
def ai_divB (A B : Int × Int) (d : Int × Int) : Int × Int := bif decide (0 ≤ A.1) && decide (0 < B.1) then (0, A.2 / B.1) else d
def ai_remB (A B : Int × Int) (d : Int × Int) : Int × Int := bif decide (0 ≤ A.1) && decide (0 < B.1) then (0, ai_mn A.2 (B.2 - 1)) else d
/-- two ints: what an instruction makes of them; none: it isn't known to go through -/
def ai_i2 (L : Nat) (ins : Instr) (G : ai_G) (a b : ai_V) : Option ai_V := match ins with
  | .iadd => some (ai_or ((ai_wh G b).bind fun z => ai_adA 2 (-2147483648) 2147483647 G a z) (ai_or ((ai_wh G a).bind fun z => ai_adA 2 (-2147483648) 2147483647 G b z) (ai_mI ((ai_b G a).1 + (ai_b G b).1) ((ai_b G a).2 + (ai_b G b).2))))
  | .isub => some (ai_or ((ai_wh G b).bind fun z => ai_adA 2 (-2147483648) 2147483647 G a (-z)) (ai_mI ((ai_b G a).1 - (ai_b G b).2) ((ai_b G a).2 - (ai_b G b).1)))
  | .imul => some (ai_or ((ai_wh G b).bind fun z => ai_muA 2 (-2147483648) 2147483647 G a z) (ai_or ((ai_wh G a).bind fun z => ai_muA 2 (-2147483648) 2147483647 G b z) (ai_mI (ai_mulB (ai_b G a) (ai_b G b)).1 (ai_mulB (ai_b G a) (ai_b G b)).2)))
  | .iand => bif a.1 == 6 && (b.1 == 0 && (decide (b.2.2.1 = 255) && decide (b.2.2.2 = 255))) then some (2, a.2.1, 0, 1) else bif a.1 == 2 && (decide (a.2.2.2 = 1) && (decide (0 ≤ (ai_b G a).1) && !(decide ((ai_b G b).1 = (ai_b G b).2)))) then some (8, a.2.1, 0, a.2.2.1) else some (ai_l2 (fun x y => x &&& y) (ai_b G a) (ai_b G b) (ai_andB (ai_b G a) (ai_b G b)))
  | .ior => some (ai_l2 (fun x y => x ||| y) (ai_b G a) (ai_b G b) (ai_orB (ai_b G a) (ai_b G b)))
  | .ixor => some (ai_l2 (fun x y => x ^^^ y) (ai_b G a) (ai_b G b) (ai_orB (ai_b G a) (ai_b G b)))
  | .ishl => some (ai_l2 (fun x y => x <<< (y &&& 31)) (ai_b G a) (ai_b G b) ai_full)
  | .ishr => match bif a.1 == 2 && (decide (a.2.2.1 = 0) && (decide (a.2.2.2 = 1) && (b.1 == 0 && decide (b.2.2.1 = b.2.2.2)))) then ai_bt L a.2.1 b.2.2.1 else none with
    | some u => some (6, u, 0, 0)
    | none => some (ai_l2 (fun x y => x >>> (y &&& 31)) (ai_b G a) (ai_b G b) ai_full)
  | .iushr => match bif a.1 == 2 && (decide (a.2.2.1 = 0) && (decide (a.2.2.2 = 1) && (b.1 == 0 && decide (b.2.2.1 = b.2.2.2)))) then ai_bt L a.2.1 b.2.2.1 else none with
    | some u => some (6, u, 0, 0)
    | none => some (ai_l2 (fun x y => (x.toUInt32 >>> (y.toUInt32 &&& Int32.toUInt32 31)).toInt32) (ai_b G a) (ai_b G b) ai_full)
  | .idiv => bif decide (0 < (ai_b G b).1) || decide ((ai_b G b).2 < 0) then some (ai_l2 (fun x y => x / y) (ai_b G a) (ai_b G b) (0, 0, (ai_divB (ai_b G a) (ai_b G b) (-2147483648, 2147483647)).1, (ai_divB (ai_b G a) (ai_b G b) (-2147483648, 2147483647)).2)) else none
  | .irem => bif decide (0 < (ai_b G b).1) || decide ((ai_b G b).2 < 0) then some (ai_l2 (fun x y => x - x / y * y) (ai_b G a) (ai_b G b) (0, 0, (ai_remB (ai_b G a) (ai_b G b) (-2147483648, 2147483647)).1, (ai_remB (ai_b G a) (ai_b G b) (-2147483648, 2147483647)).2)) else none
  | _ => none
def ai_l2l (ins : Instr) (G : ai_G) (a b : ai_V) : Option ai_V := match ins with
  | .ladd => some (ai_or ((ai_wh G b).bind fun z => ai_adA 3 (-9223372036854775808) 9223372036854775807 G a z) (ai_or ((ai_wh G a).bind fun z => ai_adA 3 (-9223372036854775808) 9223372036854775807 G b z) (ai_mL ((ai_b G a).1 + (ai_b G b).1) ((ai_b G a).2 + (ai_b G b).2))))
  | .lsub => some (ai_or ((ai_wh G b).bind fun z => ai_adA 3 (-9223372036854775808) 9223372036854775807 G a (-z)) (ai_mL ((ai_b G a).1 - (ai_b G b).2) ((ai_b G a).2 - (ai_b G b).1)))
  | .lmul => some (ai_mL (ai_mulB (ai_b G a) (ai_b G b)).1 (ai_mulB (ai_b G a) (ai_b G b)).2)
  | .ldiv => bif decide (0 < (ai_b G b).1) || decide ((ai_b G b).2 < 0) then some (ai_ll2 (fun x y => x / y) (ai_b G a) (ai_b G b)) else none
  | .lrem => bif decide (0 < (ai_b G b).1) || decide ((ai_b G b).2 < 0) then some (ai_ll2 (fun x y => x - x / y * y) (ai_b G a) (ai_b G b)) else none
  | _ => none
end
section
/-! ===== a walk over states as they are held: straight instructions, jumps, calls ===== -/
/-- pc, instruction, length; two numbers, a place in the tables, a constant -/
abbrev ai_E : Type := Nat × Instr × Nat × Nat × Nat × Nat × Int
/-- a method: its class, name, bytes, how many locals, what it gives back, how many it takes, its room, its kind (0 of an object, 1 of none, 2 a constructor, 3 the law) -/
abbrev ai_MD : Type := String × MethodName × ByteArray × Nat × Option FieldType × Nat × Room × Nat
abbrev ai_S : Type := ai_L × List ai_V × ai_W × Nat × Nat
/-- a state at a pc -/
abbrev ai_O : Type := Nat × ai_G × ai_S
def ai_tb : List Cond := lw_tbl.filter goodWord
def ai_ty (ci k : Nat) : FieldType := match ci with
  | 0 => tyX0 k
  | 1 => tyX1 k
  | 2 => tyX2 k
  | 3 => tyX3 k
  | 4 => tyX4 k
  | 5 => tyX5 k
  | 6 => tyX6 k
  | 7 => tyX7 k
  | 8 => tyX8 k
  | 9 => tyX9 k
  | _ => tyX10 k
def ai_p1 {α : Type} (st : List ai_V) (f : ai_V → List ai_V → Option α) : Option α := match st with
  | a :: r => f a r
  | [] => none
def ai_p2 {α : Type} (st : List ai_V) (f : ai_V → ai_V → List ai_V → Option α) : Option α := match st with
  | a :: b :: r => f a b r
  | _ => none
def ai_p3 {α : Type} (st : List ai_V) (f : ai_V → ai_V → ai_V → List ai_V → Option α) : Option α := match st with
  | a :: b :: c :: r => f a b c r
  | _ => none
def ai_gd {α : Type} (b : Bool) (x : Option α) : Option α := bif b then x else none
theorem ai_p1_ok {α : Type} {st : List ai_V} {f : ai_V → List ai_V → Option α} {x : α} (h : ai_p1 st f = some x) : ∃ a r, st = a :: r ∧ f a r = some x := by
  match st, h with
  | a :: r, h => exact ⟨a, r, rfl, h⟩
  | [], h => cases h
theorem ai_p2_ok {α : Type} {st : List ai_V} {f : ai_V → ai_V → List ai_V → Option α} {x : α} (h : ai_p2 st f = some x) : ∃ a b r, st = a :: b :: r ∧ f a b r = some x := by
  match st, h with
  | a :: b :: r, h => exact ⟨a, b, r, rfl, h⟩
  | [_], h => cases h
  | [], h => cases h
theorem ai_p3_ok {α : Type} {st : List ai_V} {f : ai_V → ai_V → ai_V → List ai_V → Option α} {x : α} (h : ai_p3 st f = some x) : ∃ a b c r, st = a :: b :: c :: r ∧ f a b c r = some x := by
  match st, h with
  | a :: b :: c :: r, h => exact ⟨a, b, c, r, rfl, h⟩
  | [_, _], h => cases h
  | [_], h => cases h
  | [], h => cases h
theorem ai_gd_ok {α : Type} {b : Bool} {x : Option α} {y : α} (h : ai_gd b x = some y) : b = true ∧ x = some y := by
  cases b with
  | true => exact ⟨rfl, h⟩
  | false => cases h
theorem ai_bd_ok {α β : Type} {o : Option α} {f : α → Option β} {y : β} (h : o.bind f = some y) : ∃ a, o = some a ∧ f a = some y := by
  cases o with
  | none => cases h
  | some a => exact ⟨a, rfl, h⟩
def ai_lk : ai_L → Nat → Option ai_V
  | [], _ => none
  | (k, v) :: r, i => bif k == i then some v else ai_lk r i
def ai_st1 (als : ai_L) (i : Nat) (v : ai_V) : ai_L := (i, v) :: als.filter (fun q => !(q.1 == i) && !(q.1 + 1 == i && ai_cat q.2 == 2))
def ai_st2 (als : ai_L) (i : Nat) (v : ai_V) : ai_L := (i, v) :: als.filter (fun q => !(q.1 == i) && (!(q.1 == i + 1) && !(q.1 + 1 == i && ai_cat q.2 == 2)))
def ai_look (d : ai_V) : List (Nat × ai_V) → Nat → ai_V
  | [], _ => d
  | (k, v) :: r, j => bif k == j then v else ai_look d r j
/-- schemas: what the places of an array may hold (a held value of the kind 10 in an array's default) -/
def ai_sp (id j : Nat) (z : Int) : Prop := id = id ∧ j = j ∧ z = z
def ai_sr (id : Nat) (G : ai_G) (i : ai_V) : Option (Int × Int) := bif id == 0 && (i.1 == 99 && G.isEmpty) then none else some (-2147483648, 2147483647)
def ai_sw (id : Nat) (G : ai_G) (i v : ai_V) : Bool := !(id == 0 && (i.1 == 99 && (v.1 == 99 && G.isEmpty)))
/-- the bounds of all that an array holds -/
def ai_hull (G : ai_G) (q : Int × Int) : List (Nat × ai_V) → Int × Int
  | [] => q
  | p :: r => (ai_mn (ai_b G p.2).1 (ai_hull G q r).1, ai_mx (ai_b G p.2).2 (ai_hull G q r).2)
/-- a place of an array is in it -/
def ai_inb (G : ai_G) (i : ai_V) (n : Nat) : Bool := ai_isI i && (decide (0 ≤ (ai_b G i).1) && decide ((ai_b G i).2 < (n : Int)))
def ai_one (G : ai_G) (i : ai_V) : Bool := decide ((ai_b G i).1 = (ai_b G i).2)
def ai_itv (ty : Nat) (q : Int × Int) : ai_V := bif ty == 1 then (1, 0, q.1, q.2) else (0, 0, q.1, q.2)
def ai_n10 (ov : List (Nat × ai_V)) : Bool := ov.all (fun q => !(q.2.1 == 10))
/-- what is read at a place: kinds 0 int, 1 long, 2 boolean, 3 cells -/
def ai_rd (G : ai_G) (ty : Nat) (d : ai_V) (ov : List (Nat × ai_V)) (i : ai_V) : Option ai_V :=
  bif ai_one G i then (bif (ai_look d ov (ai_b G i).1.toNat).1 == 10 then ai_gd (!(ty == 1 || ty == 3)) ((ai_sr (ai_look d ov (ai_b G i).1.toNat).2.1 G i).bind fun q => some (ai_itv ty q)) else some (ai_look d ov (ai_b G i).1.toNat))
  else bif ty == 3 then none
  else bif d.1 == 10 then ai_gd (!(ty == 1) && ai_n10 ov) ((ai_sr d.2.1 G i).bind fun q => some (ai_itv ty (ai_hull G q ov)))
  else ai_gd (ai_n10 ov) (some (ai_itv ty (ai_hull G (ai_b G d) ov)))
/-- what is put at a place -/
def ai_wr (G : ai_G) (ty : Nat) (d : ai_V) (ov : List (Nat × ai_V)) (i v : ai_V) : Option (ai_V × List (Nat × ai_V)) :=
  bif ai_one G i then (bif ai_look d ov (ai_b G i).1.toNat == v then some (d, ov) else some (d, ((ai_b G i).1.toNat, v) :: ov.filter (fun q => !(q.1 == (ai_b G i).1.toNat))))
  else bif ty == 3 then none
  else bif d.1 == 10 then ai_gd (!(ty == 1) && (ai_sw d.2.1 G i v && ov.all (fun q => ai_isI q.2 && ai_sw d.2.1 G (ai_lI q.1) q.2))) (some (d, []))
  else ai_gd (ai_n10 ov) (some (ai_itv ty (ai_hull G (ai_b G d) ((0, v) :: ov)), []))
/-- a value may be put where the type wants it -/
def ai_fit (G : ai_G) (ty : FieldType) (v : ai_V) : Bool := match ty with
  | .int => ai_isI v
  | .boolean => ai_isI v && (decide (0 ≤ (ai_b G v).1) && decide ((ai_b G v).2 ≤ 1))
  | .long => ai_isL v
  | .object _ => ai_isR v || v.1 == 5
  | .array _ => ai_isR v || v.1 == 5
  | _ => false
def ai_dv (ty : FieldType) : ai_V := match ty with
  | .long => ai_lL 0
  | .object _ => (5, 0, 0, 0)
  | .array _ => (5, 0, 0, 0)
  | _ => ai_lI 0
def ai_okt (ty : FieldType) : Bool := match ty with
  | .float => false
  | .double => false
  | _ => true
/-- the array kinds that are made -/
def ai_ak (t : ArrayType) : Option Nat := match t with
  | .int => some 0
  | .long => some 1
  | .boolean => some 2
  | _ => none
def ai_i2l (G : ai_G) (a : ai_V) : ai_V := bif a.1 == 2 then (3, a.2.1, a.2.2.1, a.2.2.2) else bif a.1 == 0 then (1, 0, a.2.2.1, a.2.2.2) else (1, 0, -2147483648, 2147483647)
def ai_l2i (G : ai_G) (a : ai_V) : ai_V := bif a.1 == 3 && (decide (-2147483648 ≤ (ai_b G a).1) && decide ((ai_b G a).2 ≤ 2147483647)) then (2, a.2.1, a.2.2.1, a.2.2.2) else ai_mI (ai_b G a).1 (ai_b G a).2
def ai_load (als : ai_L) (st : List ai_V) (aw : ai_W) (cs ss i : Nat) (ok : ai_V → Bool) : Option ai_S := (ai_lk als i).bind fun v => ai_gd (ok v) (some (als, v :: st, aw, cs, ss))
def ai_sto (als : ai_L) (st : List ai_V) (aw : ai_W) (cs ss i nL : Nat) (ok : ai_V → Bool) : Option ai_S := ai_p1 st fun v r => ai_gd (ok v && decide (i < nL)) (some (ai_st1 als i v, r, aw, cs, ss))
def ai_sto2 (als : ai_L) (st : List ai_V) (aw : ai_W) (cs ss i nL : Nat) : Option ai_S := ai_p1 st fun v r => ai_gd (ai_isL v && decide (i + 1 < nL)) (some (ai_st2 als i v, r, aw, cs, ss))
def ai_ast (G : ai_G) (als : ai_L) (st : List ai_V) (aw : ai_W) (cs ss ty : Nat) (ok : ai_V → Bool) : Option ai_S := ai_p3 st fun v i a r => ai_gd (ai_isR a && ok v) ((aw[a.2.1]?).bind fun c => match c with
  | .inr (t, n, d, ov) => ai_gd (t == ty && ai_inb G i n) ((ai_wr G ty d ov i v).bind fun q => some (als, r, aw.set a.2.1 (.inr (t, n, q.1, q.2)), cs, ss))
  | .inl _ => none)
def ai_b2 (L : Nat) (ins : Instr) (G : ai_G) (als : ai_L) (st : List ai_V) (aw : ai_W) (cs ss : Nat) : Option ai_S := ai_p2 st fun b a r => ai_gd (ai_isI a && ai_isI b) ((ai_i2 L ins G a b).bind fun v => some (als, v :: r, aw, cs, ss))
def ai_bl (ins : Instr) (G : ai_G) (als : ai_L) (st : List ai_V) (aw : ai_W) (cs ss : Nat) : Option ai_S := ai_p2 st fun b a r => ai_gd (ai_isL a && ai_isL b) ((ai_l2l ins G a b).bind fun v => some (als, v :: r, aw, cs, ss))
/-- System.arraycopy of ints -/
def ai_cpc (G : ai_G) (d0 d1 : ai_V) (o0 o1 : List (Nat × ai_V)) (n sp dp : ai_V) : Option (ai_V × List (Nat × ai_V)) :=
  bif decide ((ai_b G n).2 = 0) then some (d1, o1)
  else bif d0.1 == 10 || d1.1 == 10 then ai_gd (d0 == d1 && (ai_one G sp && (ai_one G dp && (decide ((ai_b G sp).1 = (ai_b G dp).1) && (o0.all (fun q => ai_isI q.2 && ai_sw d0.2.1 G (ai_lI q.1) q.2) && o1.all (fun q => ai_isI q.2 && ai_sw d0.2.1 G (ai_lI q.1) q.2)))))) (some (d1, []))
  else ai_gd (ai_n10 o0 && ai_n10 o1) (some (ai_itv 0 (ai_hull G (ai_hull G (ai_b G d0) o0) ((0, d1) :: o1)), []))
def ai_cpy (md : ai_MD) (G : ai_G) (als : ai_L) (st : List ai_V) (aw : ai_W) (cs ss : Nat) : Option ai_S := match st with
  | n :: dp :: dst :: sp :: src :: r => ai_gd (ai_isI n && (ai_isI dp && (ai_isI sp && (ai_isR dst && (ai_isR src && (decide (0 ≤ (ai_b G n).1) && (decide (0 ≤ (ai_b G dp).1) && (decide (0 ≤ (ai_b G sp).1) && (decide (1 ≤ md.2.2.2.2.2.2.1.frames) && decide ((r.map ai_cat).sum + (nativeFrameWords "java/lang/System" "arraycopy" 5 + 11) ≤ md.2.2.2.2.2.2.1.locals)))))))))) ((aw[src.2.1]?).bind fun c0 => (aw[dst.2.1]?).bind fun c1 => match c0, c1 with
    | .inr (0, n0, d0, o0), .inr (0, n1, d1, o1) => ai_gd (decide ((ai_b G sp).2 + (ai_b G n).2 ≤ (n0 : Int)) && decide ((ai_b G dp).2 + (ai_b G n).2 ≤ (n1 : Int))) ((ai_cpc G d0 d1 o0 o1 n sp dp).bind fun q => some (als, r, aw.set dst.2.1 (.inr (0, n1, q.1, q.2)), cs, ss))
    | _, _ => none)
  | _ => none
/-- the straight instructions -/
def ai_simp (md : ai_MD) (L : Nat) (en : ai_E) (G : ai_G) (als : ai_L) (st : List ai_V) (aw : ai_W) (cs ss : Nat) : Option ai_S := match en.2.1 with
  | .iconst n => some (als, ai_lI (Int32.ofInt n).toInt :: st, aw, cs, ss)
  | .bipush n => some (als, ai_lI (Int8.ofInt n).toInt32.toInt :: st, aw, cs, ss)
  | .sipush n => some (als, ai_lI (Int16.ofInt n).toInt32.toInt :: st, aw, cs, ss)
  | .lconst n => some (als, ai_lL (Int64.ofNat (n : Nat)).toInt :: st, aw, cs, ss)
  | .ldc _ => some (als, ai_lI (Int32.ofInt en.2.2.2.2.2.2).toInt :: st, aw, cs, ss)
  | .ldc_w _ => some (als, ai_lI (Int32.ofInt en.2.2.2.2.2.2).toInt :: st, aw, cs, ss)
  | .ldc2_w _ => some (als, ai_lL (Int64.ofInt en.2.2.2.2.2.2).toInt :: st, aw, cs, ss)
  | .iload i => ai_load als st aw cs ss i ai_isI
  | .iload_n k => ai_load als st aw cs ss (k : Nat) ai_isI
  | .lload i => ai_load als st aw cs ss i ai_isL
  | .lload_n k => ai_load als st aw cs ss (k : Nat) ai_isL
  | .aload i => ai_load als st aw cs ss i (fun v => ai_isR v || v.1 == 7)
  | .aload_n k => ai_load als st aw cs ss (k : Nat) (fun v => ai_isR v || v.1 == 7)
  | .istore i => ai_sto als st aw cs ss i md.2.2.2.1 ai_isI
  | .istore_n k => ai_sto als st aw cs ss (k : Nat) md.2.2.2.1 ai_isI
  | .astore i => ai_sto als st aw cs ss i md.2.2.2.1 ai_isR
  | .astore_n k => ai_sto als st aw cs ss (k : Nat) md.2.2.2.1 ai_isR
  | .lstore i => ai_sto2 als st aw cs ss i md.2.2.2.1
  | .lstore_n k => ai_sto2 als st aw cs ss (k : Nat) md.2.2.2.1
  | .iinc i n => (ai_lk als i).bind fun v => ai_gd (ai_isI v && decide (i < md.2.2.2.1)) (some (ai_st1 als i (ai_or (ai_adA 2 (-2147483648) 2147483647 G v (Int32.ofInt n).toInt) (ai_mI ((ai_b G v).1 + (Int32.ofInt n).toInt) ((ai_b G v).2 + (Int32.ofInt n).toInt))), st, aw, cs, ss))
  | .iadd => ai_b2 L .iadd G als st aw cs ss
  | .isub => ai_b2 L .isub G als st aw cs ss
  | .imul => ai_b2 L .imul G als st aw cs ss
  | .iand => ai_b2 L .iand G als st aw cs ss
  | .ior => ai_b2 L .ior G als st aw cs ss
  | .ixor => ai_b2 L .ixor G als st aw cs ss
  | .ishl => ai_b2 L .ishl G als st aw cs ss
  | .ishr => ai_b2 L .ishr G als st aw cs ss
  | .iushr => ai_b2 L .iushr G als st aw cs ss
  | .idiv => ai_b2 L .idiv G als st aw cs ss
  | .irem => ai_b2 L .irem G als st aw cs ss
  | .ladd => ai_bl .ladd G als st aw cs ss
  | .lsub => ai_bl .lsub G als st aw cs ss
  | .lmul => ai_bl .lmul G als st aw cs ss
  | .ldiv => ai_bl .ldiv G als st aw cs ss
  | .lrem => ai_bl .lrem G als st aw cs ss
  | .i2l => ai_p1 st fun a r => ai_gd (ai_isI a) (some (als, ai_i2l G a :: r, aw, cs, ss))
  | .l2i => ai_p1 st fun a r => ai_gd (ai_isL a) (some (als, ai_l2i G a :: r, aw, cs, ss))
  | .ineg => ai_p1 st fun a r => ai_gd (ai_isI a) (some (als, ai_mI (- (ai_b G a).2) (- (ai_b G a).1) :: r, aw, cs, ss))
  | .dup => ai_p1 st fun a r => ai_gd (ai_cat a == 1) (some (als, a :: a :: r, aw, cs, ss))
  | .pop => ai_p1 st fun a r => ai_gd (ai_cat a == 1) (some (als, r, aw, cs, ss))
  | .dup2 => ai_p2 st fun a b r => ai_gd (ai_cat a == 1 && ai_cat b == 1) (some (als, a :: b :: a :: b :: r, aw, cs, ss))
  | .putfield _ => ai_p2 st fun v a r => ai_gd (ai_isR a && ai_fit G (ai_ty en.2.2.2.1 en.2.2.2.2.1) v) ((aw[a.2.1]?).bind fun c => match c with
    | .inl (ci, fs) => ai_gd (ci == en.2.2.2.1 && decide (en.2.2.2.2.1 < fs.length)) (some (als, r, aw.set a.2.1 (.inl (ci, fs.set en.2.2.2.2.1 v)), cs, ss))
    | .inr _ => none)
  | .iaload => ai_p2 st fun i a r => ai_gd (a.1 == 7 && (md.2.2.2.2.2.2.2 == 3 && (i.1 == 0 && (decide (i.2.2.1 = i.2.2.2) && (decide (0 ≤ i.2.2.1) && decide (i.2.2.1 < (L : Int))))))) (some (als, ((2, i.2.2.1.toNat, 0, 1) : ai_V) :: r, aw, cs, ss))
  | .iastore => ai_ast G als st aw cs ss 0 ai_isI
  | .lastore => ai_ast G als st aw cs ss 1 ai_isL
  | .bastore => ai_ast G als st aw cs ss 2 (ai_fit G .boolean)
  | .aastore => ai_ast G als st aw cs ss 3 (fun v => ai_isR v && (match aw[v.2.1]? with
    | some (.inl (ci, _)) => ci == 2
    | _ => false))
  | .arraylength => ai_p1 st fun a r => bif a.1 == 7 && md.2.2.2.2.2.2.2 == 3 then some (als, ai_lI (Int32.ofNat L).toInt :: r, aw, cs, ss) else ai_gd (ai_isR a) ((aw[a.2.1]?).bind fun c => match c with
    | .inr (_, n, _, _) => some (als, ai_lI (Int32.ofNat n).toInt :: r, aw, cs, ss)
    | .inl _ => none)
  | .new _ => (vwCl[en.2.2.2.1]?).bind fun q => ai_gd ((List.range q.2.2).all (fun k => ai_okt (ai_ty en.2.2.2.1 k)) && (decide (cs + 1 ≤ md.2.2.2.2.2.2.1.cells) && decide (ss + q.2.2 ≤ md.2.2.2.2.2.2.1.slots))) (some (als, ((4, aw.length, 0, 0) : ai_V) :: st, aw ++ [.inl (en.2.2.2.1, (List.range q.2.2).map fun k => ai_dv (ai_ty en.2.2.2.1 k))], cs + 1, ss + q.2.2))
  | .newarray t => (ai_ak t).bind fun ty => ai_p1 st fun n r => ai_gd (n.1 == 0 && (decide (n.2.2.1 = n.2.2.2) && (decide (0 ≤ n.2.2.1) && (decide (n.2.2.1 ≤ 60000000) && (decide (cs + 1 ≤ md.2.2.2.2.2.2.1.cells) && decide (ss + n.2.2.1.toNat ≤ md.2.2.2.2.2.2.1.slots)))))) (some (als, ((4, aw.length, 0, 0) : ai_V) :: r, aw ++ [.inr (ty, n.2.2.1.toNat, (bif ty == 1 then ai_lL 0 else ai_lI 0), [])], cs + 1, ss + n.2.2.1.toNat))
  | .anewarray _ => ai_p1 st fun n r => ai_gd (n.1 == 0 && (decide (n.2.2.1 = n.2.2.2) && (decide (0 ≤ n.2.2.1) && (decide (n.2.2.1 ≤ 60000000) && (decide (cs + 1 ≤ md.2.2.2.2.2.2.1.cells) && decide (ss + n.2.2.1.toNat ≤ md.2.2.2.2.2.2.1.slots)))))) (some (als, ((4, aw.length, 0, 0) : ai_V) :: r, aw ++ [.inr (3, n.2.2.1.toNat, (5, 0, 0, 0), [])], cs + 1, ss + n.2.2.1.toNat))
  | .invokestatic _ => ai_gd (en.2.2.2.1 == 997) (ai_cpy md G als st aw cs ss)
  | .invokespecial _ => ai_gd (en.2.2.2.1 == 999) (ai_p1 st fun a r => ai_gd (ai_isR a && (decide (1 ≤ md.2.2.2.2.2.2.1.frames) && decide ((r.map ai_cat).sum + 12 ≤ md.2.2.2.2.2.2.1.locals))) (some (als, r, aw, cs, ss)))
  | _ => none
/-- an instruction's length (0: it is of no fixed one) -/
def ai_len (ins : Instr) : Nat := match ins with
  | .bipush _ => 2
  | .sipush _ => 3
  | .ldc _ => 2
  | .ldc_w _ => 3
  | .ldc2_w _ => 3
  | .iload _ => 2
  | .lload _ => 2
  | .aload _ => 2
  | .istore _ => 2
  | .astore _ => 2
  | .lstore _ => 2
  | .iinc _ _ => 3
  | .getfield _ => 3
  | .putfield _ => 3
  | .getstatic _ => 3
  | .new _ => 3
  | .newarray _ => 2
  | .anewarray _ => 3
  | .invokespecial _ => 3
  | .invokevirtual _ => 3
  | .invokestatic _ => 3
  | .goto _ => 3
  | .ifCond _ _ => 3
  | .if_icmp _ _ => 3
  | .ifnonnull _ => 3
  | .ifnull _ => 3
  | .tableswitch _ _ _ _ => 0
  | .lookupswitch _ _ => 0
  | _ => 1
/-- what the tables must say of an instruction -/
def ai_eok (md : ai_MD) (en : ai_E) : Prop := decode md.2.2.1 en.1 = .ok (en.2.1, en.2.2.1) ∧ (ai_len en.2.1 = 0 ∨ en.2.2.1 = ai_len en.2.1) ∧ match en.2.1 with
  | .ldc i => Jvm.Cond.constant md.1 i (Int32.ofInt en.2.2.2.2.2.2) ∈ ai_tb
  | .ldc_w i => Jvm.Cond.constant md.1 i (Int32.ofInt en.2.2.2.2.2.2) ∈ ai_tb
  | .ldc2_w i => Jvm.Cond.constantLong md.1 i (Int64.ofInt en.2.2.2.2.2.2) ∈ ai_tb
  | .getfield i => ∃ q, vwCl[en.2.2.2.1]? = some q ∧ en.2.2.2.2.1 < q.2.2 ∧ Jvm.Cond.fieldLink md.1 i (q.2.1 en.2.2.2.2.1).1 (q.2.1 en.2.2.2.2.1).2.1 (q.2.1 en.2.2.2.2.1).2.2.1 ∈ ai_tb
  | .putfield i => ∃ q, vwCl[en.2.2.2.1]? = some q ∧ en.2.2.2.2.1 < q.2.2 ∧ Jvm.Cond.fieldLink md.1 i (q.2.1 en.2.2.2.2.1).1 (q.2.1 en.2.2.2.2.1).2.1 (q.2.1 en.2.2.2.2.1).2.2.1 ∈ ai_tb ∧ ((q.2.1 en.2.2.2.2.1).2.2.2 = false ∨ ((q.2.1 en.2.2.2.2.1).2.2.2 = true ∧ md.2.1.name = "<init>" ∧ (q.2.1 en.2.2.2.2.1).1 = md.1))
  | .new i => ∃ q, vwCl[en.2.2.2.1]? = some q ∧ Jvm.Cond.classLink md.1 i q.1 ∈ ai_tb ∧ Jvm.Cond.instantiable q.1 q.2.2 ∈ ai_tb ∧ Jvm.Cond.initialized q.1 ∈ ai_tb
  | .newarray t => Jvm.Cond.arrayClass (newarray.typeOf t) ∈ ai_tb
  | .anewarray i => Jvm.Cond.classLink md.1 i "FirstPolls$Land" ∈ ai_tb
  | .invokestatic i => en.2.2.2.1 = 997 → (Jvm.Cond.methodLink md.1 i arraycopyName ∈ ai_tb ∧ Jvm.Cond.native arraycopyName ∈ ai_tb ∧ Jvm.Cond.static arraycopyName ∈ ai_tb ∧ Jvm.Cond.initialized "java/lang/System" ∈ ai_tb)
  | .invokespecial i => en.2.2.2.1 = 999 → (Jvm.Cond.methodLink md.1 i Lib.objectInit ∈ ai_tb ∧ Jvm.Cond.instanceMethod Lib.objectInit ∈ ai_tb ∧ Jvm.Cond.code Lib.objectInit ⟨#[0xb1]⟩ 1 none ∈ ai_tb)
  | _ => True
/-- a number that isn't known whole becomes a token -/
def ai_mat (G : ai_G) (v : ai_V) : Option (ai_G × ai_V) := bif (v.1 == 0 || v.1 == 1) && decide (v.2.2.1 < v.2.2.2) then some (G ++ [(v.2.2.1, v.2.2.2, 0)], (v.1 + 2, G.length, 0, 1)) else none
def ai_ald (G : ai_G) (als : ai_L) (st : List ai_V) (aw : ai_W) (cs ss ty : Nat) : Option (ai_G × ai_S) := ai_p2 st fun i a r => ai_gd (ai_isR a) ((aw[a.2.1]?).bind fun c => match c with
  | .inr (t, n, d, ov) => ai_gd (t == ty && ai_inb G i n) ((ai_rd G ty d ov i).bind fun v => match ai_mat G v with
    | none => some (G, als, v :: r, aw, cs, ss)
    | some q => bif ai_one G i then some (q.1, als, q.2 :: r, aw.set a.2.1 (.inr (t, n, d, ((ai_b G i).1.toNat, q.2) :: ov.filter (fun p => !(p.1 == (ai_b G i).1.toNat)))), cs, ss) else some (q.1, als, q.2 :: r, aw, cs, ss))
  | .inl _ => none)
def ai_rdm (en : ai_E) (G : ai_G) (als : ai_L) (st : List ai_V) (aw : ai_W) (cs ss : Nat) : Option (ai_G × ai_S) := match en.2.1 with
  | .getfield _ => ai_p1 st fun a r => ai_gd (ai_isR a) ((aw[a.2.1]?).bind fun c => match c with
    | .inl (ci, fs) => ai_gd (ci == en.2.2.2.1) ((fs[en.2.2.2.2.1]?).bind fun v => match ai_mat G v with
      | none => some (G, als, v :: r, aw, cs, ss)
      | some q => some (q.1, als, q.2 :: r, aw.set a.2.1 (.inl (ci, fs.set en.2.2.2.2.1 q.2)), cs, ss))
    | .inr _ => none)
  | .iaload => ai_ald G als st aw cs ss 0
  | .laload => ai_ald G als st aw cs ss 1
  | .baload => ai_ald G als st aw cs ss 2
  | .aaload => ai_ald G als st aw cs ss 3
  | _ => none
end
section
/-! ===== the straight instructions are as the machine does them ===== -/
/-- a place of an array holds what is held of it -/
def ai_el (ρ : ai_Rh) (sb : Nat) (ad : List Nat) (j : Nat) (a : ai_V) (v : Value) : Prop := if a.1 = 10 then ∃ x : Int32, v = .int x ∧ ai_sp a.2.1 j x.toInt else ai_mt ρ sb ad a v
theorem ai_el.of {ρ : ai_Rh} {sb : Nat} {ad : List Nat} {j : Nat} {a : ai_V} {v : Value} (h : ai_mt ρ sb ad a v) : ai_el ρ sb ad j a v := by
  unfold ai_el
  by_cases e : a.1 = 10
  · obtain ⟨n, t, l, u⟩ := a
    dsimp only at e
    subst e
    exact h.elim
  · rw [if_neg e]; exact h
theorem ai_el.to {ρ : ai_Rh} {sb : Nat} {ad : List Nat} {j : Nat} {a : ai_V} {v : Value} (h : ai_el ρ sb ad j a v) (e : ¬ a.1 = 10) : ai_mt ρ sb ad a v := by
  unfold ai_el at h
  rw [if_neg e] at h
  exact h
theorem ai_el.more {ρ σ : ai_Rh} {sb : Nat} {ad : List Nat} {j : Nat} {a : ai_V} {v : Value} (hr : ai_le ρ σ) (x : List Nat) (h : ai_el ρ sb ad j a v) : ai_el σ sb (ad ++ x) j a v := by
  unfold ai_el at h ⊢
  by_cases e : a.1 = 10
  · rw [if_pos e] at h ⊢; exact h
  · rw [if_neg e] at h ⊢; exact h.more hr x
theorem ai_el.down {ρ σ : ai_Rh} {sb : Nat} {ad : List Nat} {j : Nat} {a : ai_V} {v w : Value} (hr : ai_le ρ σ) (h0 : ai_el ρ sb ad j a w) (h : ai_el σ sb ad j a v) : ai_el ρ sb ad j a v := by
  unfold ai_el at h h0 ⊢
  by_cases e : a.1 = 10
  · rw [if_pos e] at h ⊢; exact h
  · rw [if_neg e] at h h0 ⊢; exact ai_mt.down hr h0 h
def ai_mc (ρ : ai_Rh) (sb : Nat) (ad : List Nat) (tys : List (ClassId × FieldType)) (c : ai_C) (e : va_E) : Prop := match c with
  | .inl (ci, fs) => ∃ vs : List Value, e = .inr (ci, vs) ∧ ai_F2 (ai_mt ρ sb ad) fs vs
  | .inr (0, n, d, ov) => ∃ (cA : ClassId) (f : Nat → Int32) (t0 : Nat), e = .inl (cA, n, .inl f) ∧ tys[t0]? = some (cA, .int) ∧ ∀ j, j < n → ai_el ρ sb ad j (ai_look d ov j) (.int (f j))
  | .inr (1, n, d, ov) => ∃ (cA : ClassId) (f : Nat → Int64) (t0 : Nat), e = .inl (cA, n, .inr (.inl f)) ∧ tys[t0]? = some (cA, .long) ∧ ∀ j, j < n → ai_el ρ sb ad j (ai_look d ov j) (.long (f j))
  | .inr (2, n, d, ov) => ∃ (cA : ClassId) (f : Nat → Int32) (t0 : Nat), e = .inl (cA, n, .inl f) ∧ tys[t0]? = some (cA, .boolean) ∧ ∀ j, j < n → ai_el ρ sb ad j (ai_look d ov j) (.int (f j))
  | .inr (3, n, d, ov) => ∃ (cA : ClassId) (f : Nat → Option Nat) (t0 : Nat), e = .inl (cA, n, .inr (.inr (.inr (.inr f)))) ∧ tys[t0]? = some (cA, .object "FirstPolls$Land") ∧ ∀ j, j < n → ai_el ρ sb ad j (ai_look d ov j) (va_rf (f j))
  | _ => False
def ai_ws (ρ : ai_Rh) (sb : Nat) (tys : List (ClassId × FieldType)) (aw : ai_W) (ws : va_W) : Prop := aw.length = ws.length ∧ ∀ (k : Nat) (c : ai_C), aw[k]? = some c → ∃ q : Nat × va_E, ws[k]? = some q ∧ ai_mc ρ sb (ws.map Prod.fst) tys c q.2
def ai_mem (ρ : ai_Rh) (sb : Nat) (D : va_G) (A : Nat → Prop) (s : State) (H : Heap) (locs : List Loc) (aw : ai_W) (ws : va_W) (tys : List (ClassId × FieldType)) : Prop := va_P D vwCl ws H ∧ va_D A ws ∧ va_K D vwCl tys s ∧ va_S A s.heap H locs ∧ ai_ws ρ sb tys aw ws
def ai_lv (ρ : ai_Rh) (sb : Nat) (ad : List Nat) (als : ai_L) (nL : Nat) (ls : Array Slot) : Prop := ∃ lv, lv_has ls nL lv ∧ ai_F2 (fun (a : Nat × ai_V) (q : Nat × Value) => a.1 = q.1 ∧ ai_mt ρ sb ad a.2 q.2) als lv
def ai_cx (p : Program) (s : State) (m : MethodId) (args : Array Value) (meth : Method) (c : Code) (R : Room) (md : ai_MD) (A : Nat → Prop) (sb L : Nat) (xs : Nat → Int32) : Prop :=
  p.tables.exec = Jvm.exec ∧ c.code = md.2.2.1 ∧ c.maxLocals = md.2.2.2.1 ∧ s.vm.findClass md.1 = some m.cls ∧ (∀ w ∈ ai_tb, w.before args s = true) ∧ (∀ q, s.heap.size ≤ q → A q) ∧ (md.2.1.name = "<init>" → meth.name = "<init>") ∧ R = md.2.2.2.2.2.2.1 ∧ va_AO "FirstPolls$Land" s ∧ (md.2.2.2.2.2.2.2 = 3 → va_X sb L xs s s.heap ∧ sb < s.heap.size ∧ ¬ A sb)
/-- what the tokens are: the script's numbers and their bytes -/
def ai_rk (md : ai_MD) (L : Nat) (xs : Nat → Int32) (ρ : ai_Rh) : Prop := ai_rb L ρ ∧ (md.2.2.2.2.2.2.2 = 3 → ∀ j, j < L → ρ j = some (xs j).toInt)
def ai_clok : Prop := ∀ (ci : Nat) (q : vw_C), vwCl[ci]? = some q → (∀ w ∈ u_ws q.1 q.2.1 q.2.2, w ∈ ai_tb) ∧ (∀ k, k < q.2.2 → parseFieldDescriptor (q.2.1 k).2.2.1 = some (ai_ty ci k)) ∧ ∀ a, a < q.2.2 → ∀ b, b < q.2.2 → a ≠ b → (q.2.1 a).2.1 ≠ (q.2.1 b).2.1
theorem ai_lk_ok {ρ : ai_Rh} {sb : Nat} {ad : List Nat} : ∀ {als : ai_L} {lv : List (Nat × Value)} {i : Nat} {v : ai_V}, ai_lk als i = some v → ai_F2 (fun (a : Nat × ai_V) (q : Nat × Value) => a.1 = q.1 ∧ ai_mt ρ sb ad a.2 q.2) als lv → ∃ (k : Nat) (u : Value), lv[k]? = some (i, u) ∧ ai_mt ρ sb ad v u
  | [], _, _, _, h, _ => by cases h
  | (k, w) :: r, lv, i, v, h, hF => by
    obtain ⟨q, lv', rfl, h1, h2⟩ := hF.cons
    unfold ai_lk at h
    cases hk : (k == i) with
    | true =>
      rw [hk] at h
      cases h
      have e : k = i := by simpa using hk
      obtain ⟨q1, q2⟩ := q
      have e2 : k = q1 := h1.1
      subst e2
      subst e
      exact ⟨0, q2, rfl, h1.2⟩
    | false =>
      rw [hk] at h
      obtain ⟨k', u, g1, g2⟩ := ai_lk_ok h h2
      exact ⟨k' + 1, u, by simpa using g1, g2⟩
theorem ai_mc.more {ρ σ : ai_Rh} {sb : Nat} {ad : List Nat} {tys : List (ClassId × FieldType)} {c : ai_C} {e : va_E} (hr : ai_le ρ σ) (x : List Nat) (y : List (ClassId × FieldType)) (h : ai_mc ρ sb ad tys c e) : ai_mc σ sb (ad ++ x) (tys ++ y) c e := by
  have tt : ∀ {t0 : Nat} {q : ClassId × FieldType}, tys[t0]? = some q → (tys ++ y)[t0]? = some q := fun {t0 q} h => by
    rw [List.getElem?_append_left (List.getElem?_eq_some_iff.mp h).1]; exact h
  rcases c with ⟨ci, fs⟩ | ⟨t, n, d, ov⟩
  · obtain ⟨vs, h1, h2⟩ := h
    exact ⟨vs, h1, h2.mono (fun _ _ h => h.more hr x)⟩
  · match t, h with
    | 0, h => obtain ⟨cA, f, t0, h1, h2, h3⟩ := h; exact ⟨cA, f, t0, h1, tt h2, fun j hj => (h3 j hj).more hr x⟩
    | 1, h => obtain ⟨cA, f, t0, h1, h2, h3⟩ := h; exact ⟨cA, f, t0, h1, tt h2, fun j hj => (h3 j hj).more hr x⟩
    | 2, h => obtain ⟨cA, f, t0, h1, h2, h3⟩ := h; exact ⟨cA, f, t0, h1, tt h2, fun j hj => (h3 j hj).more hr x⟩
    | 3, h => obtain ⟨cA, f, t0, h1, h2, h3⟩ := h; exact ⟨cA, f, t0, h1, tt h2, fun j hj => (h3 j hj).more hr x⟩
    | n + 4, h => exact h.elim
theorem ai_lv.more {ρ σ : ai_Rh} {sb : Nat} {ad : List Nat} {als : ai_L} {nL : Nat} {ls : Array Slot} (hr : ai_le ρ σ) (x : List Nat) (h : ai_lv ρ sb ad als nL ls) : ai_lv σ sb (ad ++ x) als nL ls := by
  obtain ⟨lv, h1, h2⟩ := h
  exact ⟨lv, h1, h2.mono (fun _ _ h => ⟨h.1, h.2.more hr x⟩)⟩
theorem ai_fst_set {ws : va_W} {k q : Nat} {e0 e1 : va_E} (h : ws[k]? = some (q, e0)) : (ws.set k (q, e1)).map Prod.fst = ws.map Prod.fst := by
  apply List.ext_getElem?
  intro i
  rw [List.getElem?_map, List.getElem?_map]
  by_cases hi : k = i
  · subst hi
    rw [List.getElem?_set_self (List.getElem?_eq_some_iff.mp h).1, h]
    rfl
  · rw [List.getElem?_set_ne hi]
theorem ai_ws.set {ρ : ai_Rh} {sb : Nat} {tys : List (ClassId × FieldType)} {aw : ai_W} {ws : va_W} {k q : Nat} {e0 e1 : va_E} {c1 : ai_C} (h : ai_ws ρ sb tys aw ws) (hk : ws[k]? = some (q, e0)) (hc : ai_mc ρ sb (ws.map Prod.fst) tys c1 e1) : ai_ws ρ sb tys (aw.set k c1) (ws.set k (q, e1)) := by
  refine ⟨by rw [List.length_set, List.length_set]; exact h.1, fun i c hi => ?_⟩
  rw [ai_fst_set hk]
  have hl : k < ws.length := (List.getElem?_eq_some_iff.mp hk).1
  by_cases e : k = i
  · subst e
    rw [List.getElem?_set_self (by rw [h.1]; exact hl)] at hi
    cases hi
    exact ⟨(q, e1), List.getElem?_set_self hl, hc⟩
  · rw [List.getElem?_set_ne e] at hi
    obtain ⟨r, h1, h2⟩ := h.2 i c hi
    exact ⟨r, by rw [List.getElem?_set_ne e]; exact h1, h2⟩
theorem ai_ws.push {ρ : ai_Rh} {sb : Nat} {tys y : List (ClassId × FieldType)} {aw : ai_W} {ws : va_W} {q : Nat} {e1 : va_E} {c1 : ai_C} (h : ai_ws ρ sb tys aw ws) (hc : ai_mc ρ sb (ws.map Prod.fst ++ [q]) (tys ++ y) c1 e1) : ai_ws ρ sb (tys ++ y) (aw ++ [c1]) (ws ++ [(q, e1)]) := by
  refine ⟨by simp [h.1], fun i c hi => ?_⟩
  rw [List.map_append]
  by_cases hl : i < aw.length
  · rw [List.getElem?_append_left hl] at hi
    obtain ⟨r, h1, h2⟩ := h.2 i c hi
    exact ⟨r, by rw [List.getElem?_append_left (by rw [← h.1]; exact hl)]; exact h1, h2.more ai_le.rf _ _⟩
  · rw [List.getElem?_append_right (by omega)] at hi
    have hz : i - aw.length < 1 := (List.getElem?_eq_some_iff.mp hi).1
    have hz2 : i = aw.length := by omega
    subst hz2
    simp at hi
    cases hi
    exact ⟨(q, e1), by rw [h.1]; simp, hc⟩
theorem ai_cell {ρ : ai_Rh} {sb : Nat} {tys : List (ClassId × FieldType)} {aw : ai_W} {ws : va_W} {k q : Nat} {c : ai_C} (h : ai_ws ρ sb tys aw ws) (hk : aw[k]? = some c) (ha : (ws.map Prod.fst)[k]? = some q) : ∃ e, ws[k]? = some (q, e) ∧ ai_mc ρ sb (ws.map Prod.fst) tys c e := by
  obtain ⟨r, h1, h2⟩ := h.2 k c hk
  rw [List.getElem?_map, h1] at ha
  cases ha
  exact ⟨r.2, h1, h2⟩
theorem ai_inb_ok {ρ : ai_Rh} {sb : Nat} {ad : List Nat} {G : ai_G} {i : ai_V} {v : Value} {n : Nat} (hG : ai_gok ρ G) (hm : ai_mt ρ sb ad i v) (h : ai_inb G i n = true) : ∃ x : Int32, v = .int x ∧ ((ai_b G i).1 ≤ x.toInt ∧ x.toInt ≤ (ai_b G i).2) ∧ 0 ≤ (ai_b G i).1 ∧ vp_in x n ∧ x.toNatClampNeg < n ∧ x.toNatClampNeg = x.toInt.toNat ∧ ai_nm ρ i x.toInt := by
  unfold ai_inb at h
  simp only [Bool.and_eq_true, decide_eq_true_eq] at h
  obtain ⟨h1, h2, h3⟩ := h
  obtain ⟨x, rfl, hb, hnm⟩ := ai_int' hG hm h1
  have hv : vp_in x n := vp_in_iff.mpr ⟨by omega, by omega⟩
  exact ⟨x, rfl, hb, h2, hv, Nat.not_le.mp fun q => hv (Or.inr q), rfl, hnm⟩
theorem ai_hull_q {G : ai_G} {q : Int × Int} : ∀ (ov : List (Nat × ai_V)), (ai_hull G q ov).1 ≤ q.1 ∧ q.2 ≤ (ai_hull G q ov).2
  | [] => ⟨Int.le_refl _, Int.le_refl _⟩
  | (k, v) :: r => by
    have h1 := ai_mn_le (ai_b G v).1 (ai_hull G q r).1
    have h2 := ai_mx_le (ai_b G v).2 (ai_hull G q r).2
    have h3 := ai_hull_q (G := G) (q := q) r
    exact ⟨Int.le_trans h1.2 h3.1, Int.le_trans h3.2 h2.2⟩
theorem ai_hull_o {G : ai_G} {q : Int × Int} : ∀ (ov : List (Nat × ai_V)) (p : Nat × ai_V), p ∈ ov → (ai_hull G q ov).1 ≤ (ai_b G p.2).1 ∧ (ai_b G p.2).2 ≤ (ai_hull G q ov).2
  | [], p, h => by cases h
  | p0 :: r, p, h => by
    have h1 := ai_mn_le (ai_b G p0.2).1 (ai_hull G q r).1
    have h2 := ai_mx_le (ai_b G p0.2).2 (ai_hull G q r).2
    rcases List.mem_cons.mp h with rfl | h
    · exact ⟨h1.1, h2.1⟩
    · have h3 := ai_hull_o (G := G) (q := q) r p h
      exact ⟨Int.le_trans h1.2 h3.1, Int.le_trans h3.2 h2.2⟩
/-- what is looked up is the default, or one of those put -/
theorem ai_look_or {d : ai_V} : ∀ (ov : List (Nat × ai_V)) (j : Nat), ai_look d ov j = d ∨ ∃ p ∈ ov, p.1 = j ∧ ai_look d ov j = p.2
  | [], j => Or.inl rfl
  | (k, v) :: r, j => by
    have e : ai_look d ((k, v) :: r) j = (bif k == j then v else ai_look d r j) := rfl
    cases h : (k == j) with
    | true => exact Or.inr ⟨(k, v), List.mem_cons_self, by simpa using h, by rw [e, h]; rfl⟩
    | false =>
      rcases ai_look_or (d := d) r j with h1 | ⟨p, h1, h2, h3⟩
      · exact Or.inl (by rw [e, h]; exact h1)
      · exact Or.inr ⟨p, List.mem_cons_of_mem _ h1, h2, by rw [e, h]; exact h3⟩
theorem ai_look_filter {d : ai_V} {a j : Nat} (h : ¬ j = a) : ∀ (ov : List (Nat × ai_V)), ai_look d (ov.filter (fun q => !(q.1 == a))) j = ai_look d ov j
  | [] => rfl
  | (k, v) :: r => by
    rw [List.filter_cons]
    by_cases hk : k = a
    · subst hk
      have e : (k == j) = false := by simpa using fun e => h e.symm
      simp only [beq_self_eq_true, Bool.not_true, Bool.false_eq_true, if_false, ai_look, e, cond_false]
      exact ai_look_filter h r
    · have e : (!(k == a)) = true := by simpa using hk
      simp only [e, if_true, ai_look, ai_look_filter h r]
theorem ai_sr_ok {ρ : ai_Rh} {G : ai_G} {id j : Nat} {i : ai_V} {x : Int32} {q : Int × Int} (hG : ai_gok ρ G) (hi : (ai_b G i).1 ≤ (j : Int) ∧ (j : Int) ≤ (ai_b G i).2) (hn : ai_nm ρ i (j : Int)) (hs : ai_sp id j x.toInt) (h : ai_sr id G i = some q) : q.1 ≤ x.toInt ∧ x.toInt ≤ q.2 := by
  unfold ai_sr at h
  cases hc : (id == 0 && (i.1 == 99 && G.isEmpty)) with
  | true => rw [hc] at h; cases h
  | false => rw [hc] at h; cases h; exact ai_i32 x
theorem ai_sw_ok {ρ : ai_Rh} {G : ai_G} {id j : Nat} {i v : ai_V} {x : Int32} (hG : ai_gok ρ G) (hi : (ai_b G i).1 ≤ (j : Int) ∧ (j : Int) ≤ (ai_b G i).2) (hn : ai_nm ρ i (j : Int)) (hx : (ai_b G v).1 ≤ x.toInt ∧ x.toInt ≤ (ai_b G v).2) (hv : ai_nm ρ v x.toInt) (h : ai_sw id G i v = true) : ai_sp id j x.toInt := ⟨rfl, rfl, rfl⟩
end
section
section ASI
variable {p : Program} {l : Launch} {e : Env} {R : Room} {s : State} {m : MethodId} {args : Array Value} {below : List Frame} {meth : Method} {c : Code} {H : Heap} {locs : List Loc} {cs ss : Nat} {Q : State → Prop} {ρ : ai_Rh} {sb L : Nat} {xs : Nat → Int32} {D : va_G} {A : Nat → Prop} {md : ai_MD}
/-- every state behind that is as it is held goes on -/
def ai_K (p : Program) (l : Launch) (e : Env) (R : Room) (s : State) (m : MethodId) (args : Array Value) (below : List Frame) (meth : Method) (c : Code) (Q : State → Prop) (ρ : ai_Rh) (sb : Nat) (D : va_G) (A : Nat → Prop) (nL : Nat) (ad : List Nat) (pc : Nat) (x : ai_S) : Prop :=
  ∀ (ls : Array Slot) (stk : List Value) (H : Heap) (locs : List Loc) (ws : va_W) (tys : List (ClassId × FieldType)) (y : List Nat), ws.map Prod.fst = ad ++ y → ai_lv ρ sb (ws.map Prod.fst) x.1 nL ls → ai_F2 (ai_mt ρ sb (ws.map Prod.fst)) x.2.1 stk → ai_mem ρ sb D A s H locs x.2.2.1 ws tys → W p l e R s m args below meth c H locs x.2.2.2.1 x.2.2.2.2 Q (F0 m pc ls stk)
theorem ai_cat_f {ad : List Nat} {i : Nat} (a : Nat × ai_V) (q : Nat × Value) (h : a.1 = q.1 ∧ ai_mt ρ sb ad a.2 q.2) : (!(a.1 == i) && !(a.1 + 1 == i && ai_cat a.2 == 2)) = (!(q.1 == i) && !(q.1 + 1 == i && q.2.category == 2)) := by
  rw [h.1, h.2.cat]
theorem ai_cat_f2 {ad : List Nat} {i : Nat} (a : Nat × ai_V) (q : Nat × Value) (h : a.1 = q.1 ∧ ai_mt ρ sb ad a.2 q.2) : (!(a.1 == i) && (!(a.1 == i + 1) && !(a.1 + 1 == i && ai_cat a.2 == 2))) = (!(q.1 == i) && (!(q.1 == i + 1) && !(q.1 + 1 == i && q.2.category == 2))) := by
  rw [h.1, h.2.cat]
theorem ai_nz {G : ai_G} {b : ai_V} {y : Int32} (hB : (ai_b G b).1 ≤ y.toInt ∧ y.toInt ≤ (ai_b G b).2) (h : (decide (0 < (ai_b G b).1) || decide ((ai_b G b).2 < 0)) = true) : ¬ y = 0 := by
  simp only [Bool.or_eq_true, decide_eq_true_eq] at h
  intro e
  subst e
  have : (0 : Int32).toInt = 0 := rfl
  omega
theorem ai_nzl {G : ai_G} {b : ai_V} {y : Int64} (hB : (ai_b G b).1 ≤ y.toInt ∧ y.toInt ≤ (ai_b G b).2) (h : (decide (0 < (ai_b G b).1) || decide ((ai_b G b).2 < 0)) = true) : ¬ y = 0 := by
  simp only [Bool.or_eq_true, decide_eq_true_eq] at h
  intro e
  subst e
  have : (0 : Int64).toInt = 0 := rfl
  omega
theorem ai_bif_ok {α : Type} {b : Bool} {x : Option α} {y : α} (h : (bif b then x else none) = some y) : b = true ∧ x = some y := by
  cases b with
  | true => exact ⟨rfl, h⟩
  | false => cases h
variable {ls : Array Slot} {stk : List Value} {ws : va_W} {tys : List (ClassId × FieldType)} {G : ai_G} {als : ai_L} {st : List ai_V} {aw : ai_W} {pc : Nat} {x : ai_S} {cc : ByteArray}
theorem ai_or_ok {o : Option ai_V} {d : ai_V} {ad : List Nat} {u : Value} (h1 : ∀ v, o = some v → ai_mt ρ sb ad v u) (h2 : ai_mt ρ sb ad d u) : ai_mt ρ sb ad (ai_or o d) u := by
  cases o with
  | none => exact h2
  | some v => exact h1 v rfl
theorem ai_wh_ok {G : ai_G} {b : ai_V} {z y : Int} (h : ai_wh G b = some z) (hB : (ai_b G b).1 ≤ y ∧ y ≤ (ai_b G b).2) : y = z := by
  unfold ai_wh at h
  obtain ⟨h1, h2⟩ := ai_bif_ok h
  cases h2
  simp only [decide_eq_true_eq] at h1
  omega
theorem ai_adA_ok {G : ai_G} {a v : ai_V} {z : Int} {ad : List Nat} {x u : Int32} (h : ai_adA 2 (-2147483648) 2147483647 G a z = some v) (hA : (ai_b G a).1 ≤ x.toInt ∧ x.toInt ≤ (ai_b G a).2) (hn : ai_nm ρ a x.toInt) (hu : u.toInt = (x.toInt + z).bmod 4294967296) : ai_mt ρ sb ad v (.int u) := by
  unfold ai_adA at h
  obtain ⟨h1, h2⟩ := ai_bif_ok h
  cases h2
  simp only [Bool.and_eq_true, beq_iff_eq, decide_eq_true_eq] at h1
  obtain ⟨w, g1, g2⟩ := hn (Or.inl h1.1)
  rw [ai_bm32 (by omega) (by omega)] at hu
  exact ⟨u, w, rfl, g1, by rw [hu, g2]; omega⟩
theorem ai_adL_ok {G : ai_G} {a v : ai_V} {z : Int} {ad : List Nat} {x u : Int64} (h : ai_adA 3 (-9223372036854775808) 9223372036854775807 G a z = some v) (hA : (ai_b G a).1 ≤ x.toInt ∧ x.toInt ≤ (ai_b G a).2) (hn : ai_nm ρ a x.toInt) (hu : u.toInt = (x.toInt + z).bmod 18446744073709551616) : ai_mt ρ sb ad v (.long u) := by
  unfold ai_adA at h
  obtain ⟨h1, h2⟩ := ai_bif_ok h
  cases h2
  simp only [Bool.and_eq_true, beq_iff_eq, decide_eq_true_eq] at h1
  obtain ⟨w, g1, g2⟩ := hn (Or.inr h1.1)
  rw [ai_bm64 (by omega) (by omega)] at hu
  exact ⟨u, w, rfl, g1, by rw [hu, g2]; omega⟩
theorem ai_muA_ok {G : ai_G} {a v : ai_V} {z : Int} {ad : List Nat} {x u : Int32} (h : ai_muA 2 (-2147483648) 2147483647 G a z = some v) (hA : (ai_b G a).1 ≤ x.toInt ∧ x.toInt ≤ (ai_b G a).2) (hn : ai_nm ρ a x.toInt) (hu : u.toInt = (x.toInt * z).bmod 4294967296) : ai_mt ρ sb ad v (.int u) := by
  unfold ai_muA at h
  obtain ⟨h1, h2⟩ := ai_bif_ok h
  cases h2
  simp only [Bool.and_eq_true, beq_iff_eq, decide_eq_true_eq] at h1
  obtain ⟨w, g1, g2⟩ := hn (Or.inl h1.1)
  have hb := ai_mulB_ok hA (B := (z, z)) (y := z) ⟨Int.le_refl _, Int.le_refl _⟩
  rw [ai_bm32 (by omega) (by omega)] at hu
  refine ⟨u, w, rfl, g1, ?_⟩
  rw [hu, g2, Int.add_mul, Int.mul_assoc, Int.mul_comm w z, ← Int.mul_assoc]
theorem ai_bits_ok {a b n : Nat} {A : Int} (ha : (a : Int) ≤ A) (hb : (b : Int) ≤ A) (h31 : a < 2147483648) (h32 : b < 2147483648) (hn : n = a ||| b ∨ n = a ^^^ b) : n < 2147483648 ∧ (n : Int) ≤ ai_bits A := by
  have key : ∀ k, a < 2 ^ k → b < 2 ^ k → n < 2 ^ k := by
    intro k g1 g2
    rcases hn with rfl | rfl
    · exact Nat.or_lt_two_pow g1 g2
    · exact Nat.xor_lt_two_pow g1 g2
  have k31 := key 31 h31 h32
  refine ⟨k31, ?_⟩
  unfold ai_bits
  cases h1 : decide (A ≤ 127) with
  | true =>
    simp only [decide_eq_true_eq] at h1
    have := key 7 (by omega) (by omega)
    simp only [cond_true]
    omega
  | false =>
    cases h2 : decide (A ≤ 65535) with
    | true =>
      simp only [decide_eq_true_eq] at h2
      have := key 16 (by omega) (by omega)
      simp only [cond_true, cond_false]
      omega
    | false =>
      simp only [cond_false]
      omega
theorem ai_orB_ok {ad : List Nat} {A B : Int × Int} {x y u : Int32} (hA : A.1 ≤ x.toInt ∧ x.toInt ≤ A.2) (hB : B.1 ≤ y.toInt ∧ y.toInt ≤ B.2) (hu : u.toBitVec.toNat = x.toBitVec.toNat ||| y.toBitVec.toNat ∨ u.toBitVec.toNat = x.toBitVec.toNat ^^^ y.toBitVec.toNat) : ai_mt ρ sb ad (ai_orB A B) (.int u) := by
  unfold ai_orB
  cases h : (decide (0 ≤ A.1) && decide (0 ≤ B.1)) with
  | false => exact ai_full_ok u
  | true =>
    simp only [Bool.and_eq_true, decide_eq_true_eq] at h
    have tn : ∀ w : Int32, 0 ≤ w.toInt → (w.toBitVec.toNat : Int) = w.toInt ∧ w.toBitVec.toNat < 2147483648 := by
      intro w hw
      have e2 : w.toInt = w.toBitVec.toInt := rfl
      rw [e2] at hw ⊢
      rw [BitVec.toInt_eq_toNat_cond] at hw ⊢
      have := w.toBitVec.isLt
      split at hw <;> rename_i hc
      · rw [if_pos hc]; constructor <;> omega
      · omega
    have hx := tn x (by omega)
    have hy := tn y (by omega)
    have m1 := ai_mx_le A.2 B.2
    have hb := ai_bits_ok (A := ai_mx A.2 B.2) (by omega) (by omega) hx.2 hy.2 hu
    have eu : u.toInt = (u.toBitVec.toNat : Int) := by
      have e2 : u.toInt = u.toBitVec.toInt := rfl
      rw [e2, BitVec.toInt_eq_toNat_cond, if_pos (by omega)]
    exact ⟨u, rfl, by omega, by rw [eu]; exact hb.2⟩
theorem ai_nIof {x : Int32} (h : 0 ≤ x.toInt) : ∃ a : Nat, a < 2 ^ 31 ∧ x = nI a ∧ x.toInt = (a : Int) := by
  obtain ⟨a, h1, h2⟩ := nI_of (x := x) (by rw [Int32.lt_iff_toInt_lt]; have : (0 : Int32).toInt = 0 := rfl; omega)
  exact ⟨a, h1, h2, by rw [h2, nI_toInt h1]⟩
theorem ai_div_ok {ad : List Nat} {A B : Int × Int} {x y : Int32} (hA : A.1 ≤ x.toInt ∧ x.toInt ≤ A.2) (hB : B.1 ≤ y.toInt ∧ y.toInt ≤ B.2) : ai_mt ρ sb ad (0, 0, (ai_divB A B (-2147483648, 2147483647)).1, (ai_divB A B (-2147483648, 2147483647)).2) (.int (x / y)) := by
  unfold ai_divB
  cases h : (decide (0 ≤ A.1) && decide (0 < B.1)) with
  | false => exact ai_full_ok _
  | true =>
    simp only [Bool.and_eq_true, decide_eq_true_eq] at h
    obtain ⟨a, ha, rfl, ea⟩ := ai_nIof (x := x) (by omega)
    obtain ⟨b, hb, rfl, eb⟩ := ai_nIof (x := y) (by omega)
    refine ⟨_, rfl, ?_⟩
    rw [pk_div ha (by omega) hb]
    have hlt : a / b < 2 ^ 31 := Nat.lt_of_le_of_lt (Nat.div_le_self a b) ha
    rw [nI_toInt hlt]
    simp only [cond_true]
    refine ⟨Int.natCast_nonneg _, ?_⟩
    have e1 : ((a / b : Nat) : Int) * B.1 ≤ ((a / b : Nat) : Int) * (b : Int) := Int.mul_le_mul_of_nonneg_left (by omega) (Int.natCast_nonneg _)
    have e2 : ((a / b * b : Nat) : Int) ≤ (a : Int) := Int.ofNat_le.mpr (Nat.div_mul_le_self a b)
    rw [Int.natCast_mul] at e2
    exact (Int.le_ediv_iff_mul_le h.2).mpr (Int.le_trans e1 (Int.le_trans e2 (by omega)))
theorem ai_rem_ok {ad : List Nat} {A B : Int × Int} {x y : Int32} (hA : A.1 ≤ x.toInt ∧ x.toInt ≤ A.2) (hB : B.1 ≤ y.toInt ∧ y.toInt ≤ B.2) : ai_mt ρ sb ad (0, 0, (ai_remB A B (-2147483648, 2147483647)).1, (ai_remB A B (-2147483648, 2147483647)).2) (.int (x - x / y * y)) := by
  unfold ai_remB
  cases h : (decide (0 ≤ A.1) && decide (0 < B.1)) with
  | false => exact ai_full_ok _
  | true =>
    simp only [Bool.and_eq_true, decide_eq_true_eq] at h
    obtain ⟨a, ha, rfl, ea⟩ := ai_nIof (x := x) (by omega)
    obtain ⟨b, hb, rfl, eb⟩ := ai_nIof (x := y) (by omega)
    refine ⟨_, rfl, ?_⟩
    rw [pk_rem ha (by omega) hb]
    have h1 : a % b ≤ a := Nat.mod_le a b
    have h2 : a % b < b := Nat.mod_lt a (by omega)
    rw [nI_toInt (by omega)]
    simp only [cond_true]
    exact ⟨by omega, ai_mn_ge (by omega) (by omega)⟩
/-- two ints -/
theorem ai_b2_ok {ins : Instr} (hx : p.tables.exec = Jvm.exec) (hb : c.code = cc) (hrb : ai_rb L ρ) (hG : ai_gok ρ G) (hls : ai_lv ρ sb (ws.map Prod.fst) als md.2.2.2.1 ls) (hst : ai_F2 (ai_mt ρ sb (ws.map Prod.fst)) st stk) (hm : ai_mem ρ sb D A s H locs aw ws tys) (h : ai_b2 L ins G als st aw cs ss = some x) (hd : decode cc pc = .ok (ins, 1)) (K : ai_K p l e R s m args below meth c Q ρ sb D A md.2.2.2.1 (ws.map Prod.fst) (pc + 1) x) : W p l e R s m args below meth c H locs cs ss Q (F0 m pc ls stk) := by
  unfold ai_b2 at h
  obtain ⟨vb, va, r, rfl, h⟩ := ai_p2_ok h
  obtain ⟨hi, h⟩ := ai_gd_ok h
  simp only [Bool.and_eq_true] at hi
  obtain ⟨v, hv, h⟩ := ai_bd_ok h
  cases h
  obtain ⟨ub, stk1, rfl, mb, hst1⟩ := hst.cons
  obtain ⟨ua, stk2, rfl, ma, hst2⟩ := hst1.cons
  obtain ⟨y, rfl, hB, hnB⟩ := ai_int' hG mb hi.2
  obtain ⟨z, rfl, hA, hnA⟩ := ai_int' hG ma hi.1
  have go : ∀ u : Int32, ai_mt ρ sb (ws.map Prod.fst) v (.int u) → W p l e R s m args below meth c H locs cs ss Q (F0 m (pc + 1) ls (.int u :: stk2)) := fun u hu => K ls _ H locs ws tys [] (List.append_nil _).symm hls ⟨hu, hst2⟩ hm
  have shf : ∀ {u : Nat}, (bif va.1 == 2 && (decide (va.2.2.1 = 0) && (decide (va.2.2.2 = 1) && (vb.1 == 0 && decide (vb.2.2.1 = vb.2.2.2)))) then ai_bt L va.2.1 vb.2.2.1 else none) = some u → ρ u = some ((z >>> (y &&& 31)) &&& 255).toInt ∧ ρ u = some (((z.toUInt32 >>> (y.toUInt32 &&& Int32.toUInt32 31)).toInt32) &&& 255).toInt := by
    intro u hu
    obtain ⟨h1, h2⟩ := ai_bif_ok hu
    simp only [Bool.and_eq_true, beq_iff_eq, decide_eq_true_eq] at h1
    obtain ⟨g1, g4, g5, g2, g3⟩ := h1
    obtain ⟨h3, h4⟩ := ai_bif_ok h2
    cases h4
    simp only [Bool.and_eq_true, Bool.or_eq_true, decide_eq_true_eq, beq_iff_eq] at h3
    obtain ⟨n1, t1, l1, u1⟩ := va
    obtain ⟨n2, t2, l2, u2⟩ := vb
    dsimp only at g1 g2 g3 g4 g5 h3
    subst g1; subst g2; subst g3; subst g4; subst g5
    obtain ⟨w, w1, w2⟩ := hnA (Or.inl rfl)
    dsimp only at w1 w2
    have ez : ρ t1 = some z.toInt := by rw [w1, w2]; congr 1; omega
    have ey : y.toInt = l2 := by
      have q1 : l2 ≤ y.toInt := hB.1
      have q2 : y.toInt ≤ l2 := hB.2
      omega
    obtain ⟨r1, r2, -⟩ := hrb h3.1 t1 l2.toNat _ z y h3.2.1 ez (by omega) (by omega) rfl
    exact ⟨r1, r2⟩
  unfold ai_i2 at hv
  split at hv
  · cases hv
    refine lv_iadd hx hb hd (go _ (ai_or_ok (fun v hv => ?_) (ai_or_ok (fun v hv => ?_) (ai_mI_ok (z := z.toInt + y.toInt) (Int32.toInt_add z y) (by omega) (by omega)))))
    · obtain ⟨w, h1, h2⟩ := ai_bd_ok hv
      have e := ai_wh_ok h1 hB
      exact ai_adA_ok h2 hA hnA (by rw [← e]; exact Int32.toInt_add z y)
    · obtain ⟨w, h1, h2⟩ := ai_bd_ok hv
      have e := ai_wh_ok h1 hA
      exact ai_adA_ok h2 hB hnB (by rw [← e, Int.add_comm]; exact Int32.toInt_add z y)
  · cases hv
    refine lv_isub hx hb hd (go _ (ai_or_ok (fun v hv => ?_) (ai_mI_ok (z := z.toInt - y.toInt) (Int32.toInt_sub z y) (by omega) (by omega))))
    obtain ⟨w, h1, h2⟩ := ai_bd_ok hv
    have e := ai_wh_ok h1 hB
    exact ai_adA_ok h2 hA hnA (by rw [← e]; exact Int32.toInt_sub z y)
  · cases hv
    have q := ai_mulB_ok hA hB
    refine lv_imul hx hb hd (go _ (ai_or_ok (fun v hv => ?_) (ai_or_ok (fun v hv => ?_) (ai_mI_ok (z := z.toInt * y.toInt) (Int32.toInt_mul z y) q.1 q.2))))
    · obtain ⟨w, h1, h2⟩ := ai_bd_ok hv
      have e := ai_wh_ok h1 hB
      exact ai_muA_ok h2 hA hnA (by rw [← e]; exact Int32.toInt_mul z y)
    · obtain ⟨w, h1, h2⟩ := ai_bd_ok hv
      have e := ai_wh_ok h1 hA
      exact ai_muA_ok h2 hB hnB (by rw [← e, Int.mul_comm]; exact Int32.toInt_mul z y)
  · refine lv_iand hx hb hd (go _ ?_)
    cases hc : (va.1 == 6 && (vb.1 == 0 && (decide (vb.2.2.1 = 255) && decide (vb.2.2.2 = 255)))) with
    | true =>
      rw [hc] at hv
      cases hv
      simp only [Bool.and_eq_true, beq_iff_eq, decide_eq_true_eq] at hc
      obtain ⟨n1, t1, l1, u1⟩ := va
      obtain ⟨n2, t2, l2, u2⟩ := vb
      obtain ⟨g1, g2, g3, g4⟩ := hc
      dsimp only at g1 g2 g3 g4
      subst g1; subst g2; subst g3; subst g4
      obtain ⟨z', w, e1, e2, e3⟩ := ma
      cases e1
      have ey : y = 255 := Int32.toInt_inj.mp (by
        have q1 : 255 ≤ y.toInt := hB.1
        have q2 : y.toInt ≤ 255 := hB.2
        have : (255 : Int32).toInt = 255 := rfl
        omega)
      subst ey
      exact ⟨_, w, rfl, e2, by rw [e3]; omega⟩
    | false =>
      rw [hc] at hv
      simp only [cond_false] at hv
      cases hc8 : (va.1 == 2 && (decide (va.2.2.2 = 1) && (decide (0 ≤ (ai_b G va).1) && !(decide ((ai_b G vb).1 = (ai_b G vb).2))))) with
      | true =>
        rw [hc8] at hv
        cases hv
        simp only [Bool.and_eq_true, beq_iff_eq, decide_eq_true_eq] at hc8
        obtain ⟨w, w1, w2⟩ := hnA (Or.inl hc8.1)
        have hl := ai_and_le (x := y) (y := z) (by omega)
        rw [show y &&& z = z &&& y from Int32.and_comm y z] at hl
        rw [hc8.2.1, Int.one_mul] at w2
        exact ⟨_, w, rfl, w1, hl.1, by omega⟩
      | false =>
        rw [hc8] at hv
        cases hv
        exact ai_l2_ok (f := fun x y => x &&& y) hA hB (ai_andB_ok hA hB)
  · cases hv
    exact lv_ior hx hb hd (go _ (ai_l2_ok (f := fun x y => x ||| y) hA hB (ai_orB_ok hA hB (Or.inl (BitVec.toNat_or _ _)))))
  · cases hv
    exact lv_ixor hx hb hd (go _ (ai_l2_ok (f := fun x y => x ^^^ y) hA hB (ai_orB_ok hA hB (Or.inr (BitVec.toNat_xor _ _)))))
  · cases hv
    exact lv_ishl hx hb hd (go _ (ai_l2_ok (f := fun x y => x <<< (y &&& 31)) hA hB (ai_full_ok _)))
  · refine lv_ishr hx hb hd (go _ ?_)
    split at hv
    · cases hv
      exact ⟨_, _, rfl, (shf (by assumption)).1, rfl⟩
    · cases hv
      exact ai_l2_ok (f := fun x y => x >>> (y &&& 31)) hA hB (ai_full_ok _)
  · refine lv_iushr hx hb hd rfl (go _ ?_)
    split at hv
    · cases hv
      exact ⟨_, _, rfl, (shf (by assumption)).2, rfl⟩
    · cases hv
      exact ai_l2_ok (f := fun x y => (x.toUInt32 >>> (y.toUInt32 &&& Int32.toUInt32 31)).toInt32) hA hB (ai_full_ok _)
  · obtain ⟨h1, h2⟩ := ai_bif_ok hv
    cases h2
    exact lv_idiv hx hb hd (ai_nz hB h1) (go _ (ai_l2_ok (f := fun x y => x / y) hA hB (ai_div_ok hA hB)))
  · obtain ⟨h1, h2⟩ := ai_bif_ok hv
    cases h2
    exact lv_irem hx hb hd (ai_nz hB h1) (go _ (ai_l2_ok (f := fun x y => x - x / y * y) hA hB (ai_rem_ok hA hB)))
  · cases hv
/-- two longs -/
theorem ai_bl_ok {ins : Instr} (hx : p.tables.exec = Jvm.exec) (hb : c.code = cc) (hG : ai_gok ρ G) (hls : ai_lv ρ sb (ws.map Prod.fst) als md.2.2.2.1 ls) (hst : ai_F2 (ai_mt ρ sb (ws.map Prod.fst)) st stk) (hm : ai_mem ρ sb D A s H locs aw ws tys) (h : ai_bl ins G als st aw cs ss = some x) (hd : decode cc pc = .ok (ins, 1)) (K : ai_K p l e R s m args below meth c Q ρ sb D A md.2.2.2.1 (ws.map Prod.fst) (pc + 1) x) : W p l e R s m args below meth c H locs cs ss Q (F0 m pc ls stk) := by
  unfold ai_bl at h
  obtain ⟨vb, va, r, rfl, h⟩ := ai_p2_ok h
  obtain ⟨hi, h⟩ := ai_gd_ok h
  simp only [Bool.and_eq_true] at hi
  obtain ⟨v, hv, h⟩ := ai_bd_ok h
  cases h
  obtain ⟨ub, stk1, rfl, mb, hst1⟩ := hst.cons
  obtain ⟨ua, stk2, rfl, ma, hst2⟩ := hst1.cons
  obtain ⟨y, rfl, hB, hnB⟩ := ai_lng' hG mb hi.2
  obtain ⟨z, rfl, hA, hnA⟩ := ai_lng' hG ma hi.1
  have go : ∀ u : Int64, ai_mt ρ sb (ws.map Prod.fst) v (.long u) → W p l e R s m args below meth c H locs cs ss Q (F0 m (pc + 1) ls (.long u :: stk2)) := fun u hu => K ls _ H locs ws tys [] (List.append_nil _).symm hls ⟨hu, hst2⟩ hm
  unfold ai_l2l at hv
  split at hv
  · cases hv
    refine lv_ladd hx hb hd (go _ (ai_or_ok (fun v hv => ?_) (ai_or_ok (fun v hv => ?_) (ai_mL_ok (z := z.toInt + y.toInt) (Int64.toInt_add z y) (by omega) (by omega)))))
    · obtain ⟨w, h1, h2⟩ := ai_bd_ok hv
      have e := ai_wh_ok h1 hB
      exact ai_adL_ok h2 hA hnA (by rw [← e]; exact Int64.toInt_add z y)
    · obtain ⟨w, h1, h2⟩ := ai_bd_ok hv
      have e := ai_wh_ok h1 hA
      exact ai_adL_ok h2 hB hnB (by rw [← e, Int.add_comm]; exact Int64.toInt_add z y)
  · cases hv
    refine lv_lsub hx hb hd (go _ (ai_or_ok (fun v hv => ?_) (ai_mL_ok (z := z.toInt - y.toInt) (Int64.toInt_sub z y) (by omega) (by omega))))
    obtain ⟨w, h1, h2⟩ := ai_bd_ok hv
    have e := ai_wh_ok h1 hB
    exact ai_adL_ok h2 hA hnA (by rw [← e]; exact Int64.toInt_sub z y)
  · cases hv
    have q := ai_mulB_ok hA hB
    exact lv_lmul hx hb hd (go _ (ai_mL_ok (z := z.toInt * y.toInt) (Int64.toInt_mul z y) q.1 q.2))
  · obtain ⟨h1, h2⟩ := ai_bif_ok hv
    cases h2
    exact lv_ldiv hx hb hd (ai_nzl hB h1) (go _ (ai_ll2_ok (f := fun x y => x / y) hA hB))
  · obtain ⟨h1, h2⟩ := ai_bif_ok hv
    cases h2
    exact lv_lrem hx hb hd (ai_nzl hB h1) (go _ (ai_ll2_ok (f := fun x y => x - x / y * y) hA hB))
  · cases hv
/-- a local is read -/
theorem ai_load_ok {i : Nat} {ok : ai_V → Bool} (hls : ai_lv ρ sb (ws.map Prod.fst) als md.2.2.2.1 ls) (h : ai_load als st aw cs ss i ok = some x) : ∃ v u, x = (als, v :: st, aw, cs, ss) ∧ ok v = true ∧ ls[i]? = some (.val u) ∧ ai_mt ρ sb (ws.map Prod.fst) v u := by
  unfold ai_load at h
  obtain ⟨v, hv, h⟩ := ai_bd_ok h
  obtain ⟨ho, h⟩ := ai_gd_ok h
  cases h
  obtain ⟨lv, h1, h2⟩ := hls
  obtain ⟨k, u, h3, h4⟩ := ai_lk_ok hv h2
  exact ⟨v, u, rfl, ho, lv_at h1 k h3, h4⟩
end ASI
end
section
section ASJ
variable {p : Program} {l : Launch} {e : Env} {R : Room} {s : State} {m : MethodId} {args : Array Value} {below : List Frame} {meth : Method} {c : Code} {H : Heap} {locs : List Loc} {cs ss : Nat} {Q : State → Prop} {ρ : ai_Rh} {sb L : Nat} {xs : Nat → Int32} {D : va_G} {A : Nat → Prop} {md : ai_MD}
variable {ls : Array Slot} {stk : List Value} {ws : va_W} {tys : List (ClassId × FieldType)} {G : ai_G} {als : ai_L} {st : List ai_V} {aw : ai_W} {pc : Nat} {x : ai_S} {cc : ByteArray} {ad : List Nat}
theorem ai_bI {a : ai_V} {y : Int32} (hG : ai_gok ρ G) (h : ai_mt ρ sb ad a (.int y)) : (ai_b G a).1 ≤ y.toInt ∧ y.toInt ≤ (ai_b G a).2 := by
  have hi : ai_isI a = true := by
    obtain ⟨n, t, lo, hi⟩ := a
    match n, h with
    | 0, _ => rfl
    | 1, h => obtain ⟨z, h, -⟩ := h; cases h
    | 2, _ => rfl
    | 3, h => obtain ⟨z, w, h, -⟩ := h; cases h
    | 4, h => obtain ⟨z, -, h⟩ := h; cases h
    | 5, h => cases h
    | 6, _ => rfl
    | 7, h => cases h
    | 8, _ => rfl
    | n + 9, h => exact h.elim
  obtain ⟨z, e1, e2⟩ := ai_int hG h hi
  cases e1
  exact e2
theorem ai_bLg {a : ai_V} {y : Int64} (hG : ai_gok ρ G) (h : ai_mt ρ sb ad a (.long y)) : (ai_b G a).1 ≤ y.toInt ∧ y.toInt ≤ (ai_b G a).2 := by
  have hi : ai_isL a = true := by
    obtain ⟨n, t, lo, hi⟩ := a
    match n, h with
    | 0, h => obtain ⟨z, h, -⟩ := h; cases h
    | 1, _ => rfl
    | 2, h => obtain ⟨z, w, h, -⟩ := h; cases h
    | 3, _ => rfl
    | 4, h => obtain ⟨z, -, h⟩ := h; cases h
    | 5, h => cases h
    | 6, h => obtain ⟨z, w, h, -⟩ := h; cases h
    | 7, h => cases h
    | 8, h => obtain ⟨z, w, h, -⟩ := h; cases h
    | n + 9, h => exact h.elim
  obtain ⟨z, e1, e2⟩ := ai_lng hG h hi
  cases e1
  exact e2
theorem ai_itvI {ty : Nat} {q : Int × Int} {y : Int32} (ht : ¬ ty = 1) (h1 : q.1 ≤ y.toInt) (h2 : y.toInt ≤ q.2) : ai_mt ρ sb ad (ai_itv ty q) (.int y) := by
  unfold ai_itv
  have : (ty == 1) = false := by simpa using ht
  rw [this]
  exact ⟨y, rfl, h1, h2⟩
theorem ai_itvL {ty : Nat} {q : Int × Int} {y : Int64} (ht : ty = 1) (h1 : q.1 ≤ y.toInt) (h2 : y.toInt ≤ q.2) : ai_mt ρ sb ad (ai_itv ty q) (.long y) := by
  unfold ai_itv
  subst ht
  exact ⟨y, rfl, h1, h2⟩
/-- the bounds that an array's places have together -/
theorem ai_hullI {n j : Nat} {d : ai_V} {ov : List (Nat × ai_V)} {q : Int × Int} {y : Int32} (hG : ai_gok ρ G) (hel : ai_el ρ sb ad j (ai_look d ov j) (.int y)) (hd : ¬ d.1 = 10 → q = ai_b G d) (hs : d.1 = 10 → ai_sp d.2.1 j y.toInt → q.1 ≤ y.toInt ∧ y.toInt ≤ q.2) (ho : ∀ p ∈ ov, ¬ p.2.1 = 10) : (ai_hull G q ov).1 ≤ y.toInt ∧ y.toInt ≤ (ai_hull G q ov).2 := by
  rcases ai_look_or (d := d) ov j with e | ⟨p, h1, h2, h3⟩
  · rw [e] at hel
    have hq := ai_hull_q (G := G) (q := q) ov
    by_cases e10 : d.1 = 10
    · unfold ai_el at hel
      rw [if_pos e10] at hel
      obtain ⟨x, ex, hx⟩ := hel
      cases ex
      have := hs e10 hx
      constructor <;> omega
    · have := ai_bI hG (hel.to e10)
      rw [hd e10] at hq ⊢
      constructor <;> omega
  · rw [h3] at hel
    have := ai_bI hG (hel.to (ho p h1))
    have hq := ai_hull_o (G := G) (q := q) ov p h1
    constructor <;> omega
theorem ai_hullL {n j : Nat} {d : ai_V} {ov : List (Nat × ai_V)} {y : Int64} (hG : ai_gok ρ G) (hel : ai_el ρ sb ad j (ai_look d ov j) (.long y)) (ho : ∀ p ∈ ov, ¬ p.2.1 = 10) (hd : ¬ d.1 = 10) : (ai_hull G (ai_b G d) ov).1 ≤ y.toInt ∧ y.toInt ≤ (ai_hull G (ai_b G d) ov).2 := by
  rcases ai_look_or (d := d) ov j with e | ⟨p, h1, h2, h3⟩
  · rw [e] at hel
    have hq := ai_hull_q (G := G) (q := ai_b G d) ov
    have := ai_bLg hG (hel.to hd)
    constructor <;> omega
  · rw [h3] at hel
    have := ai_bLg hG (hel.to (ho p h1))
    have hq := ai_hull_o (G := G) (q := ai_b G d) ov p h1
    constructor <;> omega
theorem ai_n10_ok {ov : List (Nat × ai_V)} (h : ai_n10 ov = true) : ∀ p ∈ ov, ¬ p.2.1 = 10 := by
  intro p hp
  have := List.all_eq_true.mp h p hp
  simpa using this
/-- reading a place of an array -/
theorem ai_rd_ok {ty n j : Nat} {d i v : ai_V} {ov : List (Nat × ai_V)} {g : Nat → Value} (hG : ai_gok ρ G) (hel : ∀ j, j < n → ai_el ρ sb ad j (ai_look d ov j) (g j)) (hj : j < n) (hij : (ai_b G i).1 ≤ (j : Int) ∧ (j : Int) ≤ (ai_b G i).2) (hnm : ai_nm ρ i (j : Int)) (hty : (∃ y : Int32, g j = .int y ∧ ¬ ty = 1 ∧ ¬ ty = 3) ∨ (∃ y : Int64, g j = .long y ∧ ty = 1) ∨ ty = 3) (h : ai_rd G ty d ov i = some v) : ai_mt ρ sb ad v (g j) := by
  have hj' := hel j hj
  unfold ai_rd at h
  cases h1 : ai_one G i with
  | true =>
    rw [h1] at h
    simp only [cond_true] at h
    unfold ai_one at h1
    simp only [decide_eq_true_eq] at h1
    have ej : (ai_b G i).1.toNat = j := by omega
    rw [ej] at h
    cases h2 : ((ai_look d ov j).1 == 10) with
    | true =>
      rw [h2] at h
      obtain ⟨h3, h4⟩ := ai_gd_ok h
      obtain ⟨q, h5, h6⟩ := ai_bd_ok h4
      cases h6
      have e10 : (ai_look d ov j).1 = 10 := by simpa using h2
      unfold ai_el at hj'
      rw [if_pos e10] at hj'
      obtain ⟨x, hx, hs⟩ := hj'
      have e3 : ¬ ty = 1 ∧ ¬ ty = 3 := by simpa using h3
      rw [hx]
      have := ai_sr_ok hG hij hnm hs h5
      exact ai_itvI e3.1 this.1 this.2
    | false =>
      rw [h2] at h
      cases h
      exact hj'.to (by simpa using h2)
  | false =>
    rw [h1] at h
    simp only [cond_false] at h
    cases h3 : (ty == 3) with
    | true => rw [h3] at h; cases h
    | false =>
      rw [h3] at h
      simp only [cond_false] at h
      have e3 : ¬ ty = 3 := by simpa using h3
      cases h10 : (d.1 == 10) with
      | true =>
        rw [h10] at h
        obtain ⟨h4, h5⟩ := ai_gd_ok h
        obtain ⟨q, h6, h7⟩ := ai_bd_ok h5
        cases h7
        rw [Bool.and_eq_true] at h4
        have e1 : ¬ ty = 1 := by simpa using h4.1
        rcases hty with ⟨y, hy, -⟩ | ⟨y, hy, e⟩ | e
        · rw [hy] at hj' ⊢
          have e10 : d.1 = 10 := by simpa using h10
          have := ai_hullI (n := n) hG hj' (fun hn => absurd e10 hn) (fun _ hs => ai_sr_ok hG hij hnm hs h6) (ai_n10_ok h4.2)
          exact ai_itvI e1 this.1 this.2
        · exact absurd e e1
        · exact absurd e e3
      | false =>
        rw [h10] at h
        obtain ⟨h4, h5⟩ := ai_gd_ok h
        cases h5
        have e10 : ¬ d.1 = 10 := by simpa using h10
        rcases hty with ⟨y, hy, e1, -⟩ | ⟨y, hy, e⟩ | e
        · rw [hy] at hj' ⊢
          have := ai_hullI (n := n) hG hj' (fun _ => rfl) (fun hn => absurd hn e10) (ai_n10_ok h4)
          exact ai_itvI e1 this.1 this.2
        · rw [hy] at hj' ⊢
          have := ai_hullL (n := n) hG hj' (ai_n10_ok h4) e10
          exact ai_itvL e this.1 this.2
        · exact absurd e e3
theorem ai_nmL {z : Int} : ai_nm ρ (ai_lI z) z := fun h => by rcases h with h | h <;> cases h
/-- what a place of an int array holds keeps to the array's schema -/
theorem ai_sp_of {d : ai_V} {ov : List (Nat × ai_V)} {k : Nat} {y : Int32} (hG : ai_gok ρ G) (e10 : d.1 = 10) (hel : ai_el ρ sb ad k (ai_look d ov k) (.int y)) (hall : ov.all (fun q => ai_isI q.2 && ai_sw d.2.1 G (ai_lI q.1) q.2) = true) : ai_sp d.2.1 k y.toInt := by
  rcases ai_look_or (d := d) ov k with e | ⟨p, h1, h2, h3⟩
  · rw [e] at hel
    unfold ai_el at hel
    rw [if_pos e10] at hel
    obtain ⟨x, ex, hx⟩ := hel
    cases ex
    exact hx
  · have hp := List.all_eq_true.mp hall p h1
    rw [Bool.and_eq_true] at hp
    rw [h3] at hel
    have hn10 : ¬ p.2.1 = 10 := by
      intro e
      have := hp.1
      unfold ai_isI at this
      rw [e] at this
      cases this
    obtain ⟨y', e1, e2, e3⟩ := ai_int' hG (hel.to hn10) hp.1
    cases e1
    rw [h2] at hp
    exact ai_sw_ok (i := ai_lI k) hG ⟨Int.le_refl _, Int.le_refl _⟩ ai_nmL e2 e3 hp.2
/-- putting at a place of an array -/
theorem ai_wr_ok {ty n j : Nat} {d i v : ai_V} {ov : List (Nat × ai_V)} {g g' : Nat → Value} {q : ai_V × List (Nat × ai_V)} (hG : ai_gok ρ G) (hel : ∀ j, j < n → ai_el ρ sb ad j (ai_look d ov j) (g j)) (hj : j < n) (hij : (ai_b G i).1 ≤ (j : Int) ∧ (j : Int) ≤ (ai_b G i).2) (hnm : ai_nm ρ i (j : Int)) (hv : ai_mt ρ sb ad v (g' j)) (hg : ∀ k, ¬ k = j → g' k = g k) (hty : ((∀ k, ∃ y : Int32, g' k = .int y) ∧ ¬ ty = 1) ∨ ((∀ k, ∃ y : Int64, g' k = .long y) ∧ ty = 1) ∨ ty = 3) (h : ai_wr G ty d ov i v = some q) : ∀ k, k < n → ai_el ρ sb ad k (ai_look q.1 q.2 k) (g' k) := by
  intro k hk
  unfold ai_wr at h
  cases h1 : ai_one G i with
  | true =>
    rw [h1] at h
    simp only [cond_true] at h
    unfold ai_one at h1
    simp only [decide_eq_true_eq] at h1
    have ej : (ai_b G i).1.toNat = j := by omega
    rw [ej] at h
    cases h2 : (ai_look d ov j == v) with
    | true =>
      rw [h2] at h
      cases h
      have e2 : ai_look d ov j = v := by simpa using h2
      by_cases ek : k = j
      · subst ek; rw [e2]; exact ai_el.of hv
      · rw [hg k ek]; exact hel k hk
    | false =>
      rw [h2] at h
      cases h
      have el : ∀ k, ai_look d ((j, v) :: ov.filter (fun q => !(q.1 == j))) k = (bif j == k then v else ai_look d (ov.filter (fun q => !(q.1 == j))) k) := fun _ => rfl
      by_cases ek : k = j
      · subst ek
        rw [el, beq_self_eq_true]
        exact ai_el.of hv
      · have e : (j == k) = false := by simpa using fun e => ek e.symm
        rw [el, e, hg k ek]
        simp only [cond_false]
        rw [ai_look_filter ek]
        exact hel k hk
  | false =>
    rw [h1] at h
    simp only [cond_false] at h
    cases h3 : (ty == 3) with
    | true => rw [h3] at h; cases h
    | false =>
      rw [h3] at h
      simp only [cond_false] at h
      have e3 : ¬ ty = 3 := by simpa using h3
      cases h10 : (d.1 == 10) with
      | true =>
        rw [h10] at h
        obtain ⟨h4, h5⟩ := ai_gd_ok h
        cases h5
        simp only [Bool.and_eq_true] at h4
        obtain ⟨h6, h7, h8⟩ := h4
        have e1 : ¬ ty = 1 := by simpa using h6
        have e10 : d.1 = 10 := by simpa using h10
        rcases hty with ⟨f, -⟩ | ⟨-, e⟩ | e
        · obtain ⟨y, hy⟩ := f k
          show ai_el ρ sb ad k d (g' k)
          unfold ai_el
          rw [if_pos e10]
          refine ⟨y, hy, ?_⟩
          by_cases ek : k = j
          · subst ek
            rw [hy] at hv
            have hi : ai_isI v = true := by
              obtain ⟨nv, tv, lv, uv⟩ := v
              match nv, hv with
              | 0, _ => rfl
              | 1, h => obtain ⟨z, h, -⟩ := h; cases h
              | 2, _ => rfl
              | 3, h => obtain ⟨z, w, h, -⟩ := h; cases h
              | 4, h => obtain ⟨z, -, h⟩ := h; cases h
              | 5, h => cases h
              | 6, _ => rfl
              | 7, h => cases h
              | 8, _ => rfl
              | n + 9, h => exact h.elim
            obtain ⟨y', e1', e2', e3'⟩ := ai_int' hG hv hi
            cases e1'
            exact ai_sw_ok hG hij hnm e2' e3' h7
          · have g1 := hel k hk
            rw [← hg k ek, hy] at g1
            exact ai_sp_of hG e10 g1 h8
        · exact absurd e e1
        · exact absurd e e3
      | false =>
        rw [h10] at h
        obtain ⟨h4, h5⟩ := ai_gd_ok h
        cases h5
        have e10 : ¬ d.1 = 10 := by simpa using h10
        have h0 : (ai_hull G (ai_b G d) ((0, v) :: ov)).1 ≤ (ai_b G v).1 ∧ (ai_b G v).2 ≤ (ai_hull G (ai_b G d) ((0, v) :: ov)).2 := ⟨(ai_mn_le _ _).1, (ai_mx_le _ _).1⟩
        have h9 : (ai_hull G (ai_b G d) ((0, v) :: ov)).1 ≤ (ai_hull G (ai_b G d) ov).1 ∧ (ai_hull G (ai_b G d) ov).2 ≤ (ai_hull G (ai_b G d) ((0, v) :: ov)).2 := ⟨(ai_mn_le _ _).2, (ai_mx_le _ _).2⟩
        show ai_el ρ sb ad k (ai_itv ty (ai_hull G (ai_b G d) ((0, v) :: ov))) (g' k)
        apply ai_el.of
        rcases hty with ⟨f, e1⟩ | ⟨f, e⟩ | e
        · obtain ⟨y, hy⟩ := f k
          rw [hy]
          by_cases ek : k = j
          · subst ek
            have := ai_bI hG (hy ▸ hv)
            exact ai_itvI e1 (by omega) (by omega)
          · have g1 := hel k hk
            rw [← hg k ek, hy] at g1
            have := ai_hullI (n := n) hG g1 (fun _ => rfl) (fun hn => absurd hn e10) (ai_n10_ok h4)
            exact ai_itvI e1 (by omega) (by omega)
        · obtain ⟨y, hy⟩ := f k
          rw [hy]
          by_cases ek : k = j
          · subst ek
            have := ai_bLg hG (hy ▸ hv)
            exact ai_itvL e (by omega) (by omega)
          · have g1 := hel k hk
            rw [← hg k ek, hy] at g1
            have := ai_hullL (n := n) hG g1 (ai_n10_ok h4) e10
            exact ai_itvL e (by omega) (by omega)
        · exact absurd e e3
theorem ai_bool {y : Int32} (h : 0 ≤ y.toInt ∧ y.toInt ≤ 1) : y = 0 ∨ y = 1 := by
  rcases (show y.toInt = 0 ∨ y.toInt = 1 by omega) with h | h
  · exact Or.inl (Int32.toInt_inj.mp (h.trans (show (0 : Int) = (0 : Int32).toInt from rfl)))
  · exact Or.inr (Int32.toInt_inj.mp (h.trans (show (1 : Int) = (1 : Int32).toInt from rfl)))
theorem ai_fit_ok {ty : FieldType} {v : ai_V} {u : Value} (hG : ai_gok ρ G) (hm : ai_mt ρ sb ad v u) (h : ai_fit G ty v = true) : narrow ty u = u ∧ fits ty u = true := by
  have rf : (ai_isR v || v.1 == 5) = true → u = .null ∨ ∃ q, u = .ref q := by
    intro h
    rw [Bool.or_eq_true] at h
    rcases h with h | h
    · obtain ⟨q, -, rfl⟩ := ai_ref hm h
      exact Or.inr ⟨q, rfl⟩
    · obtain ⟨n, t, lo, hi⟩ := v
      have e : n = 5 := by simpa using h
      subst e
      exact Or.inl hm
  unfold ai_fit at h
  split at h
  · obtain ⟨y, rfl, -⟩ := ai_int hG hm h
    exact ⟨rfl, rfl⟩
  · simp only [Bool.and_eq_true, decide_eq_true_eq] at h
    obtain ⟨y, rfl, hb⟩ := ai_int hG hm h.1
    rcases ai_bool (y := y) (by omega) with rfl | rfl
    · exact ⟨by decide +kernel, by decide +kernel⟩
    · exact ⟨by decide +kernel, by decide +kernel⟩
  · obtain ⟨y, rfl, -⟩ := ai_lng hG hm h
    exact ⟨rfl, rfl⟩
  · rcases rf h with rfl | ⟨q, rfl⟩
    · exact ⟨rfl, rfl⟩
    · exact ⟨rfl, rfl⟩
  · rcases rf h with rfl | ⟨q, rfl⟩
    · exact ⟨rfl, rfl⟩
    · exact ⟨rfl, rfl⟩
  · cases h
theorem ai_ast_ok {ins : Instr} {ty : Nat} {ok : ai_V → Bool} (hx : p.tables.exec = Jvm.exec) (hb : c.code = cc) (hG : ai_gok ρ G) (hls : ai_lv ρ sb (ws.map Prod.fst) als md.2.2.2.1 ls) (hst : ai_F2 (ai_mt ρ sb (ws.map Prod.fst)) st stk) (hm : ai_mem ρ sb D A s H locs aw ws tys) (h : ai_ast G als st aw cs ss ty ok = some x) (hd : decode cc pc = .ok (ins, 1)) (hins : (ty = 0 ∧ ins = .iastore ∧ ok = ai_isI) ∨ (ty = 1 ∧ ins = .lastore ∧ ok = ai_isL) ∨ (ty = 2 ∧ ins = .bastore ∧ ok = ai_fit G .boolean) ∨ (ty = 3 ∧ ins = .aastore ∧ ok = fun v => ai_isR v && (match aw[v.2.1]? with
    | some (.inl (ci, _)) => ci == 2
    | _ => false))) (K : ai_K p l e R s m args below meth c Q ρ sb D A md.2.2.2.1 (ws.map Prod.fst) (pc + 1) x) : W p l e R s m args below meth c H locs cs ss Q (F0 m pc ls stk) := by
  unfold ai_ast at h
  obtain ⟨v, i, a, r, rfl, h⟩ := ai_p3_ok h
  obtain ⟨hr, h⟩ := ai_gd_ok h
  rw [Bool.and_eq_true] at hr
  obtain ⟨hr, hok⟩ := hr
  obtain ⟨cell, hc, h⟩ := ai_bd_ok h
  rcases cell with q | ⟨t, n, d, ov⟩
  · cases h
  dsimp only at h
  obtain ⟨hi, h⟩ := ai_gd_ok h
  obtain ⟨qw, hv, h⟩ := ai_bd_ok h
  cases h
  simp only [Bool.and_eq_true, beq_iff_eq] at hi
  obtain ⟨et, hin⟩ := hi
  subst et
  obtain ⟨uv, stk0, rfl, mv, hst0⟩ := hst.cons
  obtain ⟨ui, stk1, rfl, mi, hst1⟩ := hst0.cons
  obtain ⟨ua, stk2, rfl, ma, hst2⟩ := hst1.cons
  obtain ⟨q, hq, rfl⟩ := ai_ref ma hr
  obtain ⟨iv, rfl, hb1, hb0, hvp, hlt, hcl, hnm⟩ := ai_inb_ok hG mi hin
  have hnm' : ai_nm ρ i ((iv.toNatClampNeg : Nat) : Int) := by
    have e : ((iv.toNatClampNeg : Nat) : Int) = iv.toInt := by rw [hcl]; omega
    rw [e]; exact hnm
  have hij : (ai_b G i).1 ≤ ((iv.toNatClampNeg : Nat) : Int) ∧ ((iv.toNatClampNeg : Nat) : Int) ≤ (ai_b G i).2 := by rw [hcl]; omega
  obtain ⟨hP, hD, hKk, hS, hW⟩ := id hm
  obtain ⟨e0, he, hmc⟩ := ai_cell hW hc hq
  have go : ∀ (e1 : va_E) (H1 : Heap) (locs1 : List Loc), va_P D vwCl (ws.set a.2.1 (q, e1)) H1 → va_D A (ws.set a.2.1 (q, e1)) → va_S A s.heap H1 locs1 → ai_mc ρ sb (ws.map Prod.fst) tys (.inr (t, n, qw.1, qw.2)) e1 → W p l e R s m args below meth c H1 locs1 cs ss Q (F0 m (pc + 1) ls stk2) := by
    intro e1 H1 locs1 g1 g2 g3 g4
    have ef := ai_fst_set (e1 := e1) he
    refine K ls _ H1 locs1 (ws.set a.2.1 (q, e1)) tys [] (by rw [ef, List.append_nil]) (by rw [ef]; exact hls) (by rw [ef]; exact hst2) ⟨g1, g2, hKk, g3, hW.set he g4⟩
  rcases hins with ⟨rfl, rfl, rfl⟩ | ⟨rfl, rfl, rfl⟩ | ⟨rfl, rfl, rfl⟩ | ⟨rfl, rfl, rfl⟩
  · obtain ⟨cA, f, t0, rfl, ht, hel⟩ := hmc
    obtain ⟨y, rfl, -⟩ := ai_int hG mv hok
    refine va_iast hx hb hKk hP hD hS a.2.1 t0 he ht hvp hd (fun H1 locs1 g1 g2 g3 => go _ H1 locs1 g1 g2 g3 ⟨cA, _, t0, rfl, ht, ?_⟩)
    exact ai_wr_ok (g := fun j => .int (f j)) (g' := fun j => .int (upd f iv.toNatClampNeg y j)) hG hel hlt hij hnm' (by simp only [pk_us]; exact mv) (fun k hk => by simp only [pk_un hk]) (Or.inl ⟨fun k => ⟨_, rfl⟩, by decide⟩) hv
  · obtain ⟨cA, f, t0, rfl, ht, hel⟩ := hmc
    obtain ⟨y, rfl, -⟩ := ai_lng hG mv hok
    refine va_last hx hb hKk hP hD hS a.2.1 t0 he ht hvp hd (fun H1 locs1 g1 g2 g3 => go _ H1 locs1 g1 g2 g3 ⟨cA, _, t0, rfl, ht, ?_⟩)
    exact ai_wr_ok (g := fun j => .long (f j)) (g' := fun j => .long (vp_updL f iv.toNatClampNeg y j)) hG hel hlt hij hnm' (by simp only [pk_uLs]; exact mv) (fun k hk => by simp only [pk_uLn hk]) (Or.inr (Or.inl ⟨fun k => ⟨_, rfl⟩, rfl⟩)) hv
  · obtain ⟨cA, f, t0, rfl, ht, hel⟩ := hmc
    have hok2 := hok
    unfold ai_fit at hok2
    simp only [Bool.and_eq_true, decide_eq_true_eq] at hok2
    obtain ⟨y, rfl, hby⟩ := ai_int hG mv hok2.1
    have hn : vp_nar .boolean y = y := by
      rcases ai_bool (y := y) (by omega) with rfl | rfl <;> decide +kernel
    refine va_zast hx hb hKk hP hD hS a.2.1 t0 he ht hvp hd (fun H1 locs1 g1 g2 g3 => go _ H1 locs1 g1 g2 g3 ⟨cA, _, t0, rfl, ht, ?_⟩)
    exact ai_wr_ok (g := fun j => .int (f j)) (g' := fun j => .int (upd f iv.toNatClampNeg (vp_nar .boolean y) j)) hG hel hlt hij hnm' (by simp only [pk_us, hn]; exact mv) (fun k hk => by simp only [pk_un hk]) (Or.inl ⟨fun k => ⟨_, rfl⟩, by decide⟩) hv
  · obtain ⟨cA, f, t0, rfl, ht, hel⟩ := hmc
    rw [Bool.and_eq_true] at hok
    obtain ⟨qv, hqv, rfl⟩ := ai_ref mv hok.1
    have hok2 := hok.2
    split at hok2
    · rename_i ci fs hcv
      have eci : ci = 2 := by simpa using hok2
      subst eci
      obtain ⟨ev, hev, vs, rfl, -⟩ := ai_cell hW hcv hqv
      refine va_astq hx hb hKk hP hD hS a.2.1 t0 v.2.1 2 (r := (RX2, TX2, 14)) he ht hev rfl hvp hd (fun H1 locs1 g1 g2 g3 => go _ H1 locs1 g1 g2 g3 ⟨cA, _, t0, rfl, ht, ?_⟩)
      exact ai_wr_ok (g := fun j => va_rf (f j)) (g' := fun j => va_rf (va_up f iv.toNatClampNeg (some qv) j)) hG hel hlt hij hnm' (by simp only [va_up, if_true]; exact mv) (fun k hk => by simp only [va_up, if_neg hk]) (Or.inr (Or.inr rfl)) hv
    · cases hok2
theorem ai_cats {r : List ai_V} {q : List Value} (h : ai_F2 (ai_mt ρ sb ad) r q) : (q.map fun v => v.category) = r.map ai_cat := by
  induction r generalizing q with
  | nil => rw [h.nil]; rfl
  | cons a r ih =>
    obtain ⟨b, bs, rfl, h1, h2⟩ := h.cons
    rw [List.map_cons, List.map_cons, h1.cat, ih h2]
end ASJ
end
section
section ASK
variable {p : Program} {l : Launch} {e : Env} {R : Room} {s : State} {m : MethodId} {args : Array Value} {below : List Frame} {meth : Method} {c : Code} {H : Heap} {locs : List Loc} {cs ss : Nat} {Q : State → Prop} {ρ : ai_Rh} {sb L : Nat} {xs : Nat → Int32} {D : va_G} {A : Nat → Prop} {md : ai_MD}
variable {ls : Array Slot} {stk : List Value} {ws : va_W} {tys : List (ClassId × FieldType)} {G : ai_G} {als : ai_L} {st : List ai_V} {aw : ai_W} {x : ai_S}
theorem ai_cpc_ok {n0 n1 : Nat} {f g : Nat → Int32} {d0 d1 vn vsp vdp : ai_V} {o0 o1 : List (Nat × ai_V)} {q : ai_V × List (Nat × ai_V)} {nn sn dn : Nat} {ad : List Nat} (hG : ai_gok ρ G) (h0 : ∀ j, j < n0 → ai_el ρ sb ad j (ai_look d0 o0 j) (.int (f j))) (h1 : ∀ j, j < n1 → ai_el ρ sb ad j (ai_look d1 o1 j) (.int (g j))) (hn : (ai_b G vn).1 ≤ (nn : Int) ∧ (nn : Int) ≤ (ai_b G vn).2) (hs : (ai_b G vsp).1 ≤ (sn : Int) ∧ (sn : Int) ≤ (ai_b G vsp).2) (hd : (ai_b G vdp).1 ≤ (dn : Int) ∧ (dn : Int) ≤ (ai_b G vdp).2) (hz : sn + nn ≤ n0) (h : ai_cpc G d0 d1 o0 o1 vn vsp vdp = some q) : ∀ j, j < n1 → ai_el ρ sb ad j (ai_look q.1 q.2 j) (.int (va_cpy f g sn dn nn j)) := by
  intro k hk
  have cin : dn ≤ k ∧ k < dn + nn → va_cpy f g sn dn nn k = f (sn + (k - dn)) := fun hc => pk_cpy_in hc.1 hc.2
  have cout : ¬ (dn ≤ k ∧ k < dn + nn) → va_cpy f g sn dn nn k = g k := fun hc => pk_cpy_out (by omega)
  unfold ai_cpc at h
  cases e0 : decide ((ai_b G vn).2 = 0) with
  | true =>
    rw [e0] at h
    cases h
    simp only [decide_eq_true_eq] at e0
    rw [cout (by omega)]
    exact h1 k hk
  | false =>
    rw [e0] at h
    simp only [cond_false] at h
    cases e1 : (d0.1 == 10 || d1.1 == 10) with
    | true =>
      rw [e1] at h
      obtain ⟨h2, h3⟩ := ai_gd_ok h
      cases h3
      simp only [Bool.and_eq_true, beq_iff_eq, decide_eq_true_eq, ai_one] at h2
      obtain ⟨p1, p2, p3, p4, p5, p6⟩ := h2
      subst p1
      have e10 : d0.1 = 10 := by simpa using e1
      show ai_el ρ sb ad k d0 _
      unfold ai_el
      rw [if_pos e10]
      refine ⟨_, rfl, ?_⟩
      by_cases hc : dn ≤ k ∧ k < dn + nn
      · rw [cin hc, show sn + (k - dn) = k by omega]
        exact ai_sp_of hG e10 (h0 k (by omega)) p5
      · rw [cout hc]
        exact ai_sp_of hG e10 (h1 k hk) p6
    | false =>
      rw [e1] at h
      obtain ⟨h2, h3⟩ := ai_gd_ok h
      cases h3
      rw [Bool.and_eq_true] at h2
      have e10 : ¬ d0.1 = 10 ∧ ¬ d1.1 = 10 := by simpa using e1
      show ai_el ρ sb ad k (ai_itv 0 _) _
      apply ai_el.of
      have q1 := ai_hull_q (G := G) (q := ai_hull G (ai_b G d0) o0) ((0, d1) :: o1)
      have q2 : (ai_hull G (ai_hull G (ai_b G d0) o0) ((0, d1) :: o1)).1 ≤ (ai_b G d1).1 ∧ (ai_b G d1).2 ≤ (ai_hull G (ai_hull G (ai_b G d0) o0) ((0, d1) :: o1)).2 := ai_hull_o _ (0, d1) List.mem_cons_self
      by_cases hc : dn ≤ k ∧ k < dn + nn
      · rw [cin hc]
        have := ai_hullI (n := n0) hG (h0 (sn + (k - dn)) (by omega)) (fun _ => rfl) (fun hn => absurd hn e10.1) (ai_n10_ok h2.1)
        exact ai_itvI (by decide) (by omega) (by omega)
      · rw [cout hc]
        rcases ai_look_or (d := d1) o1 k with e | ⟨p, g1, g2, g3⟩
        · have := h1 k hk
          rw [e] at this
          have := ai_bI hG (this.to e10.2)
          exact ai_itvI (by decide) (by omega) (by omega)
        · have := h1 k hk
          rw [g3] at this
          have := ai_bI hG (this.to (ai_n10_ok h2.2 p g1))
          have := ai_hull_o (G := G) (q := ai_hull G (ai_b G d0) o0) ((0, d1) :: o1) p (List.mem_cons_of_mem _ g1)
          exact ai_itvI (by decide) (by omega) (by omega)
theorem ai_simp_ok {en : ai_E} (hcl : ai_clok) (he : ai_eok md en) (cx : ai_cx p s m args meth c R md A sb L xs) (hrk : ai_rk md L xs ρ) (hG : ai_gok ρ G) (hls : ai_lv ρ sb (ws.map Prod.fst) als md.2.2.2.1 ls) (hst : ai_F2 (ai_mt ρ sb (ws.map Prod.fst)) st stk) (hm : ai_mem ρ sb D A s H locs aw ws tys) (h : ai_simp md L en G als st aw cs ss = some x) (K : ai_K p l e R s m args below meth c Q ρ sb D A md.2.2.2.1 (ws.map Prod.fst) (en.1 + en.2.2.1) x) : W p l e R s m args below meth c H locs cs ss Q (F0 m en.1 ls stk) := by
  obtain ⟨pc, ins, len, na, nb, ni, nz⟩ := en
  obtain ⟨hx, hb, hml, hown, hts, hA, hini, hR, hao, hsc⟩ := cx
  obtain ⟨hrb, hsj⟩ := hrk
  obtain ⟨hd, hlen, hw⟩ := he
  dsimp only at hd hlen hw K h ⊢
  have stay : ∀ (stk' : List Value) (st' : List ai_V) (pc' : Nat), x = (als, st', aw, cs, ss) → pc + len = pc' → ai_F2 (ai_mt ρ sb (ws.map Prod.fst)) st' stk' → W p l e R s m args below meth c H locs cs ss Q (F0 m pc' ls stk') := by
    intro stk' st' pc' h1 h2 h3
    subst h1
    subst h2
    exact K ls _ H locs ws tys [] (List.append_nil _).symm hls h3 hm
  have stor : ∀ (i : Nat) (u : Value) (v : ai_V) (lv : List (Nat × Value)) (ls' : Array Slot) (r : List ai_V) (stk1 : List Value) (pc' : Nat), x = (ai_st1 als i v, r, aw, cs, ss) → pc + len = pc' → ai_F2 (fun (a : Nat × ai_V) (q : Nat × Value) => a.1 = q.1 ∧ ai_mt ρ sb (ws.map Prod.fst) a.2 q.2) als lv → ai_mt ρ sb (ws.map Prod.fst) v u → ai_F2 (ai_mt ρ sb (ws.map Prod.fst)) r stk1 → lv_has ls' md.2.2.2.1 ((i, u) :: lv.filter (fun q => !(q.1 == i) && !(q.1 + 1 == i && q.2.category == 2))) → W p l e R s m args below meth c H locs cs ss Q (F0 m pc' ls' stk1) := by
    intro i u v lv ls' r stk1 pc' h1 h2 h3 h4 h5 h6
    subst h1
    subst h2
    exact K ls' _ H locs ws tys [] (List.append_nil _).symm ⟨_, h6, ⟨rfl, h4⟩, h3.filt ai_cat_f⟩ h5 hm
  have stor2 : ∀ (i : Nat) (u : Value) (v : ai_V) (lv : List (Nat × Value)) (ls' : Array Slot) (r : List ai_V) (stk1 : List Value) (pc' : Nat), x = (ai_st2 als i v, r, aw, cs, ss) → pc + len = pc' → ai_F2 (fun (a : Nat × ai_V) (q : Nat × Value) => a.1 = q.1 ∧ ai_mt ρ sb (ws.map Prod.fst) a.2 q.2) als lv → ai_mt ρ sb (ws.map Prod.fst) v u → ai_F2 (ai_mt ρ sb (ws.map Prod.fst)) r stk1 → lv_has ls' md.2.2.2.1 ((i, u) :: lv.filter (fun q => !(q.1 == i) && (!(q.1 == i + 1) && !(q.1 + 1 == i && q.2.category == 2)))) → W p l e R s m args below meth c H locs cs ss Q (F0 m pc' ls' stk1) := by
    intro i u v lv ls' r stk1 pc' h1 h2 h3 h4 h5 h6
    subst h1
    subst h2
    exact K ls' _ H locs ws tys [] (List.append_nil _).symm ⟨_, h6, ⟨rfl, h4⟩, h3.filt ai_cat_f2⟩ h5 hm
  have l1 : ai_len ins = 1 → len = 1 := fun q => by rcases hlen with h | h <;> omega
  have l2 : ai_len ins = 2 → len = 2 := fun q => by rcases hlen with h | h <;> omega
  have l3 : ai_len ins = 3 → len = 3 := fun q => by rcases hlen with h | h <;> omega
  have fe : ∀ {i : Nat} {u : Value}, (∃ q, (ws.map Prod.fst)[i]? = some q ∧ u = .ref q) ∨ u = .ref sb → True := fun _ => trivial
  obtain ⟨hP, hD, hKk, hS, hW⟩ := id hm
  unfold ai_simp at h
  dsimp only at h
  split at h
  -- constants
  · cases h; cases l1 rfl
    exact lv_iconst hx hb hd rfl (stay _ _ _ rfl rfl ⟨ai_lI_ok _, hst⟩)
  · cases h; cases l2 rfl
    exact lv_bipush hx hb hd rfl (stay _ _ _ rfl rfl ⟨ai_lI_ok _, hst⟩)
  · cases h; cases l3 rfl
    exact lv_sipush hx hb hd rfl (stay _ _ _ rfl rfl ⟨ai_lI_ok _, hst⟩)
  · cases h; cases l1 rfl
    exact lv_lconst hx hb hd rfl (stay _ _ _ rfl rfl ⟨ai_lL_ok _, hst⟩)
  · cases h; cases l2 rfl
    exact lv_ldc hx hb hown (hts _ hw) hd (stay _ _ _ rfl rfl ⟨ai_lI_ok _, hst⟩)
  · cases h; cases l3 rfl
    exact lv_ldcw hx hb hown (hts _ hw) hd (stay _ _ _ rfl rfl ⟨ai_lI_ok _, hst⟩)
  · cases h; cases l3 rfl
    exact lv_ldc2 hx hb hown (hts _ hw) hd (stay _ _ _ rfl rfl ⟨ai_lL_ok _, hst⟩)
  -- loads
  · cases l2 rfl
    obtain ⟨v, u, rfl, ho, h1, h2⟩ := ai_load_ok hls h
    obtain ⟨y, rfl, -⟩ := ai_int hG h2 ho
    exact lv_iload hx hb hd h1 (stay _ _ _ rfl rfl ⟨h2, hst⟩)
  · cases l1 rfl
    obtain ⟨v, u, rfl, ho, h1, h2⟩ := ai_load_ok hls h
    obtain ⟨y, rfl, -⟩ := ai_int hG h2 ho
    exact lv_iload_n hx hb hd rfl h1 (stay _ _ _ rfl rfl ⟨h2, hst⟩)
  · cases l2 rfl
    obtain ⟨v, u, rfl, ho, h1, h2⟩ := ai_load_ok hls h
    obtain ⟨y, rfl, -⟩ := ai_lng hG h2 ho
    exact lv_lload hx hb hd h1 (stay _ _ _ rfl rfl ⟨h2, hst⟩)
  · cases l1 rfl
    obtain ⟨v, u, rfl, ho, h1, h2⟩ := ai_load_ok hls h
    obtain ⟨y, rfl, -⟩ := ai_lng hG h2 ho
    exact lv_lload_n hx hb hd rfl h1 (stay _ _ _ rfl rfl ⟨h2, hst⟩)
  · cases l2 rfl
    obtain ⟨v, u, rfl, ho, h1, h2⟩ := ai_load_ok hls h
    obtain ⟨y, rfl⟩ : ∃ y, u = .ref y := by
      rw [Bool.or_eq_true] at ho
      rcases ho with ho | ho
      · obtain ⟨q, -, rfl⟩ := ai_ref h2 ho; exact ⟨q, rfl⟩
      · obtain ⟨n, t, lo, hi⟩ := v
        have e7 : n = 7 := by simpa using ho
        subst e7
        exact ⟨sb, h2⟩
    exact lv_aload hx hb hd h1 (stay _ _ _ rfl rfl ⟨h2, hst⟩)
  · cases l1 rfl
    obtain ⟨v, u, rfl, ho, h1, h2⟩ := ai_load_ok hls h
    obtain ⟨y, rfl⟩ : ∃ y, u = .ref y := by
      rw [Bool.or_eq_true] at ho
      rcases ho with ho | ho
      · obtain ⟨q, -, rfl⟩ := ai_ref h2 ho; exact ⟨q, rfl⟩
      · obtain ⟨n, t, lo, hi⟩ := v
        have e7 : n = 7 := by simpa using ho
        subst e7
        exact ⟨sb, h2⟩
    exact lv_aload_n hx hb hd rfl h1 (stay _ _ _ rfl rfl ⟨h2, hst⟩)
  -- stores
  · cases l2 rfl
    unfold ai_sto at h
    obtain ⟨v, r, rfl, hh⟩ := ai_p1_ok h
    obtain ⟨ho, hh⟩ := ai_gd_ok hh
    simp only [Bool.and_eq_true, decide_eq_true_eq] at ho
    cases hh
    obtain ⟨u, stk1, rfl, mv, hst1⟩ := hst.cons
    obtain ⟨y, rfl, -⟩ := ai_int hG mv ho.1
    obtain ⟨lv, h1, h2⟩ := hls
    exact lv_istore hx hb hd h1 ho.2 rfl (fun ls' h3 => stor _ _ _ lv ls' r stk1 _ rfl rfl h2 mv hst1 h3)
  · cases l1 rfl
    unfold ai_sto at h
    obtain ⟨v, r, rfl, hh⟩ := ai_p1_ok h
    obtain ⟨ho, hh⟩ := ai_gd_ok hh
    simp only [Bool.and_eq_true, decide_eq_true_eq] at ho
    cases hh
    obtain ⟨u, stk1, rfl, mv, hst1⟩ := hst.cons
    obtain ⟨y, rfl, -⟩ := ai_int hG mv ho.1
    obtain ⟨lv, h1, h2⟩ := hls
    exact lv_istore_n hx hb hd rfl h1 ho.2 rfl (fun ls' h3 => stor _ _ _ lv ls' r stk1 _ rfl rfl h2 mv hst1 h3)
  · cases l2 rfl
    unfold ai_sto at h
    obtain ⟨v, r, rfl, hh⟩ := ai_p1_ok h
    obtain ⟨ho, hh⟩ := ai_gd_ok hh
    simp only [Bool.and_eq_true, decide_eq_true_eq] at ho
    cases hh
    obtain ⟨u, stk1, rfl, mv, hst1⟩ := hst.cons
    obtain ⟨q, -, rfl⟩ := ai_ref mv ho.1
    obtain ⟨lv, h1, h2⟩ := hls
    exact lv_astore hx hb hd h1 ho.2 rfl (fun ls' h3 => stor _ _ _ lv ls' r stk1 _ rfl rfl h2 mv hst1 h3)
  · cases l1 rfl
    unfold ai_sto at h
    obtain ⟨v, r, rfl, hh⟩ := ai_p1_ok h
    obtain ⟨ho, hh⟩ := ai_gd_ok hh
    simp only [Bool.and_eq_true, decide_eq_true_eq] at ho
    cases hh
    obtain ⟨u, stk1, rfl, mv, hst1⟩ := hst.cons
    obtain ⟨q, -, rfl⟩ := ai_ref mv ho.1
    obtain ⟨lv, h1, h2⟩ := hls
    exact lv_astore_n hx hb hd rfl h1 ho.2 rfl (fun ls' h3 => stor _ _ _ lv ls' r stk1 _ rfl rfl h2 mv hst1 h3)
  · cases l2 rfl
    unfold ai_sto2 at h
    obtain ⟨v, r, rfl, hh⟩ := ai_p1_ok h
    obtain ⟨ho, hh⟩ := ai_gd_ok hh
    simp only [Bool.and_eq_true, decide_eq_true_eq] at ho
    cases hh
    obtain ⟨u, stk1, rfl, mv, hst1⟩ := hst.cons
    obtain ⟨y, rfl, -⟩ := ai_lng hG mv ho.1
    obtain ⟨lv, h1, h2⟩ := hls
    exact lv_lstore hx hb hd h1 ho.2 rfl (fun ls' h3 => stor2 _ _ _ lv ls' r stk1 _ rfl rfl h2 mv hst1 h3)
  · cases l1 rfl
    unfold ai_sto2 at h
    obtain ⟨v, r, rfl, hh⟩ := ai_p1_ok h
    obtain ⟨ho, hh⟩ := ai_gd_ok hh
    simp only [Bool.and_eq_true, decide_eq_true_eq] at ho
    cases hh
    obtain ⟨u, stk1, rfl, mv, hst1⟩ := hst.cons
    obtain ⟨y, rfl, -⟩ := ai_lng hG mv ho.1
    obtain ⟨lv, h1, h2⟩ := hls
    exact lv_lstore_n hx hb hd rfl h1 ho.2 rfl (fun ls' h3 => stor2 _ _ _ lv ls' r stk1 _ rfl rfl h2 mv hst1 h3)
  -- iinc
  · cases l3 rfl
    obtain ⟨v, hv, h⟩ := ai_bd_ok h
    obtain ⟨ho, h⟩ := ai_gd_ok h
    simp only [Bool.and_eq_true, decide_eq_true_eq] at ho
    cases h
    obtain ⟨lv, h1, h2⟩ := hls
    obtain ⟨k, u, h3, h4⟩ := ai_lk_ok hv h2
    obtain ⟨y, rfl, hb1, hnm⟩ := ai_int' hG h4 ho.1
    exact lv_iinc hx hb hd h1 h3 rfl ho.2 rfl (fun ls' h5 => stor _ _ _ lv ls' st stk _ rfl rfl h2 (ai_or_ok (fun v hv => ai_adA_ok hv hb1 hnm (Int32.toInt_add y _)) (ai_mI_ok (z := y.toInt + (Int32.ofInt _).toInt) (Int32.toInt_add y _) (by omega) (by omega))) hst h5)
  -- two numbers
  · cases l1 rfl; exact ai_b2_ok hx hb hrb hG hls hst hm h hd K
  · cases l1 rfl; exact ai_b2_ok hx hb hrb hG hls hst hm h hd K
  · cases l1 rfl; exact ai_b2_ok hx hb hrb hG hls hst hm h hd K
  · cases l1 rfl; exact ai_b2_ok hx hb hrb hG hls hst hm h hd K
  · cases l1 rfl; exact ai_b2_ok hx hb hrb hG hls hst hm h hd K
  · cases l1 rfl; exact ai_b2_ok hx hb hrb hG hls hst hm h hd K
  · cases l1 rfl; exact ai_b2_ok hx hb hrb hG hls hst hm h hd K
  · cases l1 rfl; exact ai_b2_ok hx hb hrb hG hls hst hm h hd K
  · cases l1 rfl; exact ai_b2_ok hx hb hrb hG hls hst hm h hd K
  · cases l1 rfl; exact ai_b2_ok hx hb hrb hG hls hst hm h hd K
  · cases l1 rfl; exact ai_b2_ok hx hb hrb hG hls hst hm h hd K
  · cases l1 rfl; exact ai_bl_ok hx hb hG hls hst hm h hd K
  · cases l1 rfl; exact ai_bl_ok hx hb hG hls hst hm h hd K
  · cases l1 rfl; exact ai_bl_ok hx hb hG hls hst hm h hd K
  · cases l1 rfl; exact ai_bl_ok hx hb hG hls hst hm h hd K
  · cases l1 rfl; exact ai_bl_ok hx hb hG hls hst hm h hd K
  -- i2l, l2i, ineg
  · cases l1 rfl
    obtain ⟨v, r, rfl, hh⟩ := ai_p1_ok h
    obtain ⟨ho, hh⟩ := ai_gd_ok hh
    cases hh
    obtain ⟨u, stk1, rfl, mv, hst1⟩ := hst.cons
    obtain ⟨y, rfl, hb1, hn⟩ := ai_int' hG mv ho
    have e1 : y.toInt64.toInt = y.toInt := Int32.toInt_toInt64 y
    refine lv_i2l hx hb hd rfl (stay _ _ _ rfl rfl ⟨?_, hst1⟩)
    unfold ai_i2l
    obtain ⟨n, t, lo, hi⟩ := v
    cases h2 : (n == 2) with
    | true =>
      have e2 : n = 2 := by simpa using h2
      subst e2
      obtain ⟨w, w1, w2⟩ := hn (Or.inl rfl)
      exact ⟨_, w, rfl, w1, e1.trans w2⟩
    | false =>
      cases h0 : (n == 0) with
      | true =>
        have e2 : n = 0 := by simpa using h0
        subst e2
        have q1 : lo ≤ y.toInt := hb1.1
        have q2 : y.toInt ≤ hi := hb1.2
        exact ⟨_, rfl, by rw [e1]; exact q1, by rw [e1]; exact q2⟩
      | false => exact ⟨_, rfl, by rw [e1]; exact (ai_i32 y).1, by rw [e1]; exact (ai_i32 y).2⟩
  · cases l1 rfl
    obtain ⟨v, r, rfl, hh⟩ := ai_p1_ok h
    obtain ⟨ho, hh⟩ := ai_gd_ok hh
    cases hh
    obtain ⟨u, stk1, rfl, mv, hst1⟩ := hst.cons
    obtain ⟨y, rfl, hb1, hn⟩ := ai_lng' hG mv ho
    have e1 : y.toInt32.toInt = y.toInt.bmod 4294967296 := Int64.toInt_toInt32 y
    refine lv_l2i hx hb hd rfl (stay _ _ _ rfl rfl ⟨?_, hst1⟩)
    unfold ai_l2i
    cases h2 : (v.1 == 3 && (decide (-2147483648 ≤ (ai_b G v).1) && decide ((ai_b G v).2 ≤ 2147483647))) with
    | true =>
      simp only [Bool.and_eq_true, decide_eq_true_eq, beq_iff_eq] at h2
      obtain ⟨w, w1, w2⟩ := hn (Or.inr h2.1)
      refine ⟨_, w, rfl, w1, ?_⟩
      rw [e1, ai_bm32 (by omega) (by omega)]
      exact w2
    | false => exact ai_mI_ok e1 hb1.1 hb1.2
  · cases l1 rfl
    obtain ⟨v, r, rfl, hh⟩ := ai_p1_ok h
    obtain ⟨ho, hh⟩ := ai_gd_ok hh
    cases hh
    obtain ⟨u, stk1, rfl, mv, hst1⟩ := hst.cons
    obtain ⟨y, rfl, hb1, hn⟩ := ai_int' hG mv ho
    exact lv_ineg hx hb hd (stay _ _ _ rfl rfl ⟨ai_mI_ok (z := - y.toInt) (Int32.toInt_neg y) (by omega) (by omega), hst1⟩)
  -- the stack
  · cases l1 rfl
    obtain ⟨v, r, rfl, hh⟩ := ai_p1_ok h
    obtain ⟨ho, hh⟩ := ai_gd_ok hh
    cases hh
    obtain ⟨u, stk1, rfl, mv, hst1⟩ := hst.cons
    exact lv_dup hx hb hd (by rw [mv.cat]; simpa using ho) (stay _ _ _ rfl rfl ⟨mv, mv, hst1⟩)
  · cases l1 rfl
    obtain ⟨v, r, rfl, hh⟩ := ai_p1_ok h
    obtain ⟨ho, hh⟩ := ai_gd_ok hh
    cases hh
    obtain ⟨u, stk1, rfl, mv, hst1⟩ := hst.cons
    exact lv_pop hx hb hd (by rw [mv.cat]; simpa using ho) (stay _ _ _ rfl rfl hst1)
  · cases l1 rfl
    obtain ⟨v, w, r, rfl, hh⟩ := ai_p2_ok h
    obtain ⟨ho, hh⟩ := ai_gd_ok hh
    simp only [Bool.and_eq_true, beq_iff_eq] at ho
    cases hh
    obtain ⟨u, stk1, rfl, mv, hst1⟩ := hst.cons
    obtain ⟨u2, stk2, rfl, mw, hst2⟩ := hst1.cons
    exact lv_dup2_11 hx hb hd (by rw [mv.cat]; exact ho.1) (by rw [mw.cat]; exact ho.2) (stay _ _ _ rfl rfl ⟨mv, mw, mv, mw, hst2⟩)
  -- putfield
  · cases l3 rfl
    obtain ⟨w, v, r, rfl, hh⟩ := ai_p2_ok h
    obtain ⟨ho, hh⟩ := ai_gd_ok hh
    rw [Bool.and_eq_true] at ho
    obtain ⟨cell, hc, hh⟩ := ai_bd_ok hh
    rcases cell with ⟨ci, fs⟩ | q
    · dsimp only at hh
      obtain ⟨hi, h5⟩ := ai_gd_ok hh
      simp only [Bool.and_eq_true, beq_iff_eq, decide_eq_true_eq] at hi
      obtain ⟨eci, hlt⟩ := hi
      subst eci
      cases h5
      obtain ⟨uw, stk0, rfl, mw, hst0⟩ := hst.cons
      obtain ⟨u, stk1, rfl, mv, hst1⟩ := hst0.cons
      obtain ⟨a, ha, rfl⟩ := ai_ref mv ho.1
      obtain ⟨e9, h9, vs, rfl, hfs⟩ := ai_cell hW hc ha
      obtain ⟨hn, hf⟩ := ai_fit_ok hG mw ho.2
      obtain ⟨q, hq, hk, hl, hfin⟩ := hw
      obtain ⟨c1, c2, c3⟩ := hcl ci q hq
      have go : ∀ (H1 : Heap) (locs1 : List Loc), va_P D vwCl (ws.set v.2.1 (a, .inr (ci, vs.set nb uw))) H1 → va_D A (ws.set v.2.1 (a, .inr (ci, vs.set nb uw))) → va_S A s.heap H1 locs1 → W p l e R s m args below meth c H1 locs1 cs ss Q (F0 m (pc + 3) ls stk1) := by
        intro H1 locs1 g1 g2 g3
        have ef := ai_fst_set (e1 := .inr (ci, vs.set nb uw)) h9
        exact K ls _ H1 locs1 _ tys [] (by rw [ef, List.append_nil]) (by rw [ef]; exact hls) (by rw [ef]; exact hst1) ⟨g1, g2, hKk, g3, hW.set h9 ⟨_, rfl, hfs.set mw⟩⟩
      have hvl : nb < vs.length := by rw [← hfs.len]; exact hlt
      rcases hfin with hfin | ⟨hfin, hi1, hi2⟩
      · exact va_put (C := q.1) (T := q.2.1) (N := q.2.2) hx hb hts c1 (ai_ty ci) c2 c3 hown hKk hP hD hS v.2.1 h9 hq nb hk (hts _ hl) (fun _ h => h) hfin (c2 nb hk) hn hf hvl hd go
      · exact va_putF (C := q.1) (T := q.2.1) (N := q.2.2) hx hb hts c1 (ai_ty ci) c2 c3 hown hKk hP hD hS v.2.1 h9 hq nb hk (hts _ hl) (fun _ h => h) hfin (hini hi1) hi2 (c2 nb hk) hn hf hvl hd go
    · cases hh
  -- the script
  · cases l1 rfl
    obtain ⟨i, a, r, rfl, hz⟩ := ai_p2_ok h
    obtain ⟨ho, hz⟩ := ai_gd_ok hz
    simp only [Bool.and_eq_true, beq_iff_eq, decide_eq_true_eq] at ho
    obtain ⟨o1, o2, o3, o4, o5, o6⟩ := ho
    cases hz
    obtain ⟨u, stk0, rfl, mi, hst0⟩ := hst.cons
    obtain ⟨ua, stk1, rfl, ma, hst1⟩ := hst0.cons
    obtain ⟨ni', ti, li, ui⟩ := i
    obtain ⟨nA, tA, lA, uA⟩ := a
    dsimp only at o1 o3 o4 o5 o6
    subst o1; subst o3; subst o4
    obtain ⟨iv, rfl, i1, i2⟩ := mi
    cases ma
    obtain ⟨hX, hbl, hbA⟩ := hsc o2
    have ei : iv.toInt = li := by omega
    have hvp : vp_in iv L := vp_in_iff.mpr ⟨by omega, by omega⟩
    have ec : iv.toNatClampNeg = li.toNat := by rw [← ei]; rfl
    refine va_sld hx hb hX hbl hbA hS hvp hd (stay _ _ _ rfl rfl ⟨⟨_, (xs li.toNat).toInt, rfl, hsj o2 li.toNat (by omega), ?_⟩, hst1⟩)
    rw [ec]
    omega
  · cases l1 rfl; exact ai_ast_ok hx hb hG hls hst hm h hd (Or.inl ⟨rfl, rfl, rfl⟩) K
  · cases l1 rfl; exact ai_ast_ok hx hb hG hls hst hm h hd (Or.inr (Or.inl ⟨rfl, rfl, rfl⟩)) K
  · cases l1 rfl; exact ai_ast_ok hx hb hG hls hst hm h hd (Or.inr (Or.inr (Or.inl ⟨rfl, rfl, rfl⟩))) K
  · cases l1 rfl; exact ai_ast_ok hx hb hG hls hst hm h hd (Or.inr (Or.inr (Or.inr ⟨rfl, rfl, rfl⟩))) K
  -- arraylength
  · cases l1 rfl
    obtain ⟨v, r, rfl, hh⟩ := ai_p1_ok h
    obtain ⟨u, stk1, rfl, mv, hst1⟩ := hst.cons
    cases h7 : (v.1 == 7 && md.2.2.2.2.2.2.2 == 3) with
    | true =>
      rw [h7] at hh
      cases hh
      simp only [Bool.and_eq_true, beq_iff_eq] at h7
      obtain ⟨n, t, lo, hi⟩ := v
      obtain ⟨o1, o2⟩ := h7
      dsimp only at o1
      subst o1
      cases mv
      obtain ⟨hX, hbl, hbA⟩ := hsc o2
      exact va_slen hx hb hX hbl hbA hS hd (stay _ _ _ rfl rfl ⟨ai_lI_ok _, hst1⟩)
    | false =>
      rw [h7] at hh
      simp only [cond_false] at hh
      obtain ⟨ho, hh⟩ := ai_gd_ok hh
      obtain ⟨cell, hc, hh⟩ := ai_bd_ok hh
      rcases cell with q | ⟨t, n, d, ov⟩
      · cases hh
      dsimp only at hh
      cases hh
      obtain ⟨a, ha, rfl⟩ := ai_ref mv ho
      obtain ⟨e9, h9, hmc⟩ := ai_cell hW hc ha
      have go := stay (.int (Int32.ofNat n) :: stk1) _ (pc + 1) rfl rfl ⟨ai_lI_ok _, hst1⟩
      match t, hmc with
      | 0, hmc => obtain ⟨cA, f, t0, rfl, ht, -⟩ := hmc; exact va_alen hx hb hKk hP v.2.1 t0 h9 ht rfl hd go
      | 1, hmc => obtain ⟨cA, f, t0, rfl, ht, -⟩ := hmc; exact va_alen hx hb hKk hP v.2.1 t0 h9 ht rfl hd go
      | 2, hmc => obtain ⟨cA, f, t0, rfl, ht, -⟩ := hmc; exact va_alen hx hb hKk hP v.2.1 t0 h9 ht rfl hd go
      | 3, hmc => obtain ⟨cA, f, t0, rfl, ht, -⟩ := hmc; exact va_alen hx hb hKk hP v.2.1 t0 h9 ht rfl hd go
      | n + 4, hmc => exact hmc.elim
  -- new
  · cases l3 rfl
    obtain ⟨q, hq, h⟩ := ai_bd_ok h
    obtain ⟨ho, h⟩ := ai_gd_ok h
    simp only [Bool.and_eq_true, decide_eq_true_eq] at ho
    cases h
    obtain ⟨q', hq', w1, w2, w3⟩ := hw
    cases hq.symm.trans hq'
    obtain ⟨c1, c2, c3⟩ := hcl na q hq
    subst hR
    refine va_new (C := q.1) (T := q.2.1) (N := q.2.2) (fs := (List.range q.2.2).map fun k => defaultValue (ai_ty na k)) hx hb hts c1 (ai_ty na) c2 hown (hts _ w1) (hts _ w2) (hts _ w3) hKk hP hD hS hA hq (fun j hj => ?_) ho.2.1 ho.2.2 hd (fun q1 H1 g1 g2 g3 => ?_)
    · simp [vp_V, hj]
    · have ef : (ws ++ [(q1, (.inr (na, (List.range q.2.2).map fun k => defaultValue (ai_ty na k)) : va_E))]).map Prod.fst = ws.map Prod.fst ++ [q1] := by simp
      refine K ls _ H1 locs _ tys [q1] ef (by rw [ef]; exact hls.more ai_le.rf _) (by rw [ef]; exact ⟨⟨q1, by simp [hW.1], rfl⟩, hst.mono (fun _ _ h => h.more ai_le.rf _)⟩) ⟨g1, g2, hKk, g3, ?_⟩
      have := hW.push (y := []) (q := q1) (e1 := .inr (na, (List.range q.2.2).map fun k => defaultValue (ai_ty na k))) (c1 := .inl (na, (List.range q.2.2).map fun k => ai_dv (ai_ty na k))) ⟨_, rfl, ?_⟩
      · rw [List.append_nil] at this
        exact this
      · have dv : ∀ ty : FieldType, ai_okt ty = true → ai_mt ρ sb (ws.map Prod.fst ++ [q1]) (ai_dv ty) (defaultValue ty) := by
          intro ty ht
          cases ty with
          | byte => exact ⟨0, rfl, by decide, by decide⟩
          | char => exact ⟨0, rfl, by decide, by decide⟩
          | short => exact ⟨0, rfl, by decide, by decide⟩
          | int => exact ⟨0, rfl, by decide, by decide⟩
          | boolean => exact ⟨0, rfl, by decide, by decide⟩
          | long => exact ⟨0, rfl, by decide, by decide⟩
          | object n => exact (rfl : defaultValue (FieldType.object n) = .null)
          | array n => exact (rfl : defaultValue (FieldType.array n) = .null)
          | float => cases ht
          | double => cases ht
        have hall := ho.1
        generalize List.range q.2.2 = lr at hall ⊢
        induction lr with
        | nil => trivial
        | cons a r ih =>
          rw [List.all_cons, Bool.and_eq_true] at hall
          exact ⟨dv _ hall.1, ih hall.2⟩
  -- newarray
  · cases l2 rfl
    obtain ⟨ty, hty, h1⟩ := ai_bd_ok h
    obtain ⟨n, r, rfl, h2⟩ := ai_p1_ok h1
    obtain ⟨ho, h3⟩ := ai_gd_ok h2
    simp only [Bool.and_eq_true, beq_iff_eq, decide_eq_true_eq] at ho
    cases h3
    obtain ⟨u, stk1, rfl, mv, hst1⟩ := hst.cons
    obtain ⟨nn, tn, ln, un⟩ := n
    obtain ⟨o1, o2, o3, o4, o5, o6⟩ := ho
    dsimp only at o1 o2 o3 o4 o5 o6 K
    subst o1; subst o2
    obtain ⟨iv, rfl, i1, i2⟩ := mv
    have ei : iv.toInt = ln := by omega
    have hn : ¬ iv < 0 := by
      rw [Int32.lt_iff_toInt_lt]
      have : (0 : Int32).toInt = 0 := rfl
      omega
    have hN : iv.toNatClampNeg = ln.toNat := by rw [← ei]; rfl
    subst hR
    have ef : ∀ (q1 : Nat) (e9 : va_E), (ws ++ [(q1, e9)]).map Prod.fst = ws.map Prod.fst ++ [q1] := fun q1 e9 => by simp
    unfold ai_ak at hty
    split at hty
    · cases hty
      refine va_newa (ty := .int) (a0 := (ln.toNat, .inl (fun _ => 0))) (N' := ln.toNat) hx hb (hts _ hw) rfl hKk hP hD hS hA (fun cA => rfl) hn hN (show ln.toNat * 4 ≤ 536870912 by omega) o5 o6 hd (fun q1 cA H1 k1 g1 g2 g3 => ?_)
      refine K ls _ H1 locs _ _ [q1] (ef q1 _) (by rw [ef]; exact hls.more ai_le.rf _) (by rw [ef]; exact ⟨⟨q1, by simp [hW.1], rfl⟩, hst1.mono (fun _ _ h => h.more ai_le.rf _)⟩) ⟨g1, g2, k1, g3, hW.push ⟨cA, _, tys.length, rfl, by simp, fun j _ => ai_el.of ⟨0, rfl, by decide, by decide⟩⟩⟩
    · cases hty
      refine va_newa (ty := .long) (a0 := (ln.toNat, .inr (.inl (fun _ => 0)))) (N' := ln.toNat) hx hb (hts _ hw) rfl hKk hP hD hS hA (fun cA => rfl) hn hN (show ln.toNat * 8 ≤ 536870912 by omega) o5 o6 hd (fun q1 cA H1 k1 g1 g2 g3 => ?_)
      refine K ls _ H1 locs _ _ [q1] (ef q1 _) (by rw [ef]; exact hls.more ai_le.rf _) (by rw [ef]; exact ⟨⟨q1, by simp [hW.1], rfl⟩, hst1.mono (fun _ _ h => h.more ai_le.rf _)⟩) ⟨g1, g2, k1, g3, hW.push ⟨cA, _, tys.length, rfl, by simp, fun j _ => ai_el.of ⟨0, rfl, by decide, by decide⟩⟩⟩
    · cases hty
      refine va_newa (ty := .boolean) (a0 := (ln.toNat, .inl (fun _ => 0))) (N' := ln.toNat) hx hb (hts _ hw) rfl hKk hP hD hS hA (fun cA => rfl) hn hN (show ln.toNat * 1 ≤ 536870912 by omega) o5 o6 hd (fun q1 cA H1 k1 g1 g2 g3 => ?_)
      refine K ls _ H1 locs _ _ [q1] (ef q1 _) (by rw [ef]; exact hls.more ai_le.rf _) (by rw [ef]; exact ⟨⟨q1, by simp [hW.1], rfl⟩, hst1.mono (fun _ _ h => h.more ai_le.rf _)⟩) ⟨g1, g2, k1, g3, hW.push ⟨cA, _, tys.length, rfl, by simp, fun j _ => ai_el.of ⟨0, rfl, by decide, by decide⟩⟩⟩
    · cases hty
  -- anewarray
  · cases l3 rfl
    obtain ⟨n, r, rfl, h2⟩ := ai_p1_ok h
    obtain ⟨ho, h3⟩ := ai_gd_ok h2
    simp only [Bool.and_eq_true, beq_iff_eq, decide_eq_true_eq] at ho
    cases h3
    obtain ⟨u, stk1, rfl, mv, hst1⟩ := hst.cons
    obtain ⟨nn, tn, ln, un⟩ := n
    obtain ⟨o1, o2, o3, o4, o5, o6⟩ := ho
    dsimp only at o1 o2 o3 o4 o5 o6 K
    subst o1; subst o2
    obtain ⟨iv, rfl, i1, i2⟩ := mv
    have ei : iv.toInt = ln := by omega
    have hn : ¬ iv < 0 := by
      rw [Int32.lt_iff_toInt_lt]
      have : (0 : Int32).toInt = 0 := rfl
      omega
    have hN : iv.toNatClampNeg = ln.toNat := by rw [← ei]; rfl
    subst hR
    have ef : ∀ (q1 : Nat) (e9 : va_E), (ws ++ [(q1, e9)]).map Prod.fst = ws.map Prod.fst ++ [q1] := fun q1 e9 => by simp
    refine va_newq (N' := ln.toNat) hx hb hown (hts _ hw) hao hKk hP hD hS hA hn hN (by omega) o5 o6 hd (fun q1 cA H1 k1 g1 g2 g3 => ?_)
    refine K ls _ H1 locs _ _ [q1] (ef q1 _) (by rw [ef]; exact hls.more ai_le.rf _) (by rw [ef]; exact ⟨⟨q1, by simp [hW.1], rfl⟩, hst1.mono (fun _ _ h => h.more ai_le.rf _)⟩) ⟨g1, g2, k1, g3, hW.push ⟨cA, _, tys.length, rfl, by simp, fun j _ => ai_el.of rfl⟩⟩
  -- System.arraycopy
  · cases l3 rfl
    obtain ⟨h9, h1⟩ := ai_gd_ok h
    obtain ⟨w1, w2, w3, w4⟩ := hw (by simpa using h9)
    unfold ai_cpy at h1
    split at h1
    · rename_i vn vdp vdst vsp vsrc r
      obtain ⟨ho, h2⟩ := ai_gd_ok h1
      simp only [Bool.and_eq_true, decide_eq_true_eq] at ho
      obtain ⟨o1, o2, o3, o4, o5, o6, o7, o8, o9, o10⟩ := ho
      obtain ⟨c0, hc0, h3⟩ := ai_bd_ok h2
      obtain ⟨c1, hc1, h4⟩ := ai_bd_ok h3
      obtain ⟨un, stk1, rfl, mn, hst1⟩ := hst.cons
      obtain ⟨udp, stk2, rfl, mdp, hst2⟩ := hst1.cons
      obtain ⟨udst, stk3, rfl, mdst, hst3⟩ := hst2.cons
      obtain ⟨usp, stk4, rfl, msp, hst4⟩ := hst3.cons
      obtain ⟨usrc, stk5, rfl, msrc, hst5⟩ := hst4.cons
      obtain ⟨xn, rfl, bn, nn⟩ := ai_int' hG mn o1
      obtain ⟨xdp, rfl, bdp, ndp⟩ := ai_int' hG mdp o2
      obtain ⟨xsp, rfl, bsp, nsp⟩ := ai_int' hG msp o3
      obtain ⟨qd, hqd, rfl⟩ := ai_ref mdst o4
      obtain ⟨qs, hqs, rfl⟩ := ai_ref msrc o5
      split at h4
      · rename_i n0 d0 ov0 n1 d1 ov1
        obtain ⟨hb2, h5⟩ := ai_gd_ok h4
        simp only [Bool.and_eq_true, decide_eq_true_eq] at hb2
        obtain ⟨q, h6, h7⟩ := ai_bd_ok h5
        cases h7
        obtain ⟨e0, he0, cA0, f0, t0, rfl, ht0, hel0⟩ := ai_cell hW hc0 hqs
        obtain ⟨e1, he1, cA1, f1, t1, rfl, ht1, hel1⟩ := ai_cell hW hc1 hqd
        have nz : ∀ z : Int32, 0 ≤ z.toInt → ¬ z < 0 ∧ ((z.toNatClampNeg : Nat) : Int) = z.toInt := by
          intro z hz
          refine ⟨by rw [Int32.lt_iff_toInt_lt]; have : (0 : Int32).toInt = 0 := rfl; omega, ?_⟩
          show ((z.toInt.toNat : Nat) : Int) = z.toInt
          omega
        have zn := nz xn (by omega)
        have zd := nz xdp (by omega)
        have zs := nz xsp (by omega)
        obtain ⟨lv, hlv, -⟩ := id hls
        subst hR
        refine va_copyi (ty := .int) hx hb (by rw [hml]; exact hlv.1.symm) hown (hts _ w1) (hts _ w2) (hts _ w3) (hts _ w4) hKk hP hD hS vsrc.2.1 vdst.2.1 t0 t1 he0 he1 ht0 ht1 rfl zs.1 zd.1 zn.1 (by omega) (by omega) (fun _ _ => rfl) o9 (by rw [ai_cats hst5]; exact o10) hd (fun H1 locs1 g1 g2 g3 => ?_)
        have ef := ai_fst_set (e1 := .inl (cA1, n1, .inl (va_cpy f0 f1 xsp.toNatClampNeg xdp.toNatClampNeg xn.toNatClampNeg))) he1
        refine K ls _ H1 locs1 _ tys [] (by rw [ef, List.append_nil]) (by rw [ef]; exact hls) (by rw [ef]; exact hst5) ⟨g1, g2, hKk, g3, hW.set he1 ⟨cA1, _, t1, rfl, ht1, ?_⟩⟩
        exact ai_cpc_ok hG hel0 hel1 (by rw [zn.2]; exact bn) (by rw [zs.2]; exact bsp) (by rw [zd.2]; exact bdp) (by omega) h6
      · cases h4
    · cases h1
  -- the constructor of Object
  · cases l3 rfl
    obtain ⟨h9, h1⟩ := ai_gd_ok h
    obtain ⟨v, r, rfl, h2⟩ := ai_p1_ok h1
    obtain ⟨ho, h3⟩ := ai_gd_ok h2
    simp only [Bool.and_eq_true, decide_eq_true_eq] at ho
    cases h3
    obtain ⟨u, stk1, rfl, mv, hst1⟩ := hst.cons
    obtain ⟨a, ha, rfl⟩ := ai_ref mv ho.1
    obtain ⟨w1, w2, w3⟩ := hw (by simpa using h9)
    obtain ⟨lv, hlv, -⟩ := id hls
    subst hR
    refine W.objInit hx hb hown (hts _ w1) (hts _ w2) (hts _ w3) (g := F0 m pc ls (.ref a :: stk1)) rfl (by rw [hml]; exact hlv.1) rfl hd ho.2.1 ?_ (stay _ _ _ rfl rfl hst1)
    rw [ai_cats hst1]
    have := ho.2.2
    show 2 * 0 + _ + 12 ≤ _
    omega
  · cases h
end ASK
end
section
section ASD
variable {p : Program} {l : Launch} {e : Env} {R : Room} {s : State} {m : MethodId} {args : Array Value} {below : List Frame} {meth : Method} {c : Code} {H : Heap} {locs : List Loc} {cs ss : Nat} {Q : State → Prop} {ρ σ : ai_Rh} {sb L : Nat} {xs : Nat → Int32} {D : va_G} {A : Nat → Prop} {md : ai_MD}
variable {ls : Array Slot} {stk : List Value} {ws : va_W} {tys : List (ClassId × FieldType)} {G G' : ai_G} {als : ai_L} {st : List ai_V} {aw : ai_W} {x : ai_S} {pc : Nat} {cc : ByteArray} {ad : List Nat}
/-! ===== reads: what isn't known whole becomes a token ===== -/
theorem ai_mc.up {cl : ai_C} {e9 : va_E} (hr : ai_le ρ σ) (h : ai_mc ρ sb ad tys cl e9) : ai_mc σ sb ad tys cl e9 := by
  have := ai_mc.more hr [] [] h
  rw [List.append_nil, List.append_nil] at this
  exact this
theorem ai_el.up {j : Nat} {a : ai_V} {v : Value} (hr : ai_le ρ σ) (h : ai_el ρ sb ad j a v) : ai_el σ sb ad j a v := by
  have := ai_el.more hr [] h
  rw [List.append_nil] at this
  exact this
theorem ai_lv.up {nL : Nat} (hr : ai_le ρ σ) (h : ai_lv ρ sb ad als nL ls) : ai_lv σ sb ad als nL ls := by
  have := ai_lv.more hr [] h
  rw [List.append_nil] at this
  exact this
theorem ai_ws.up (hr : ai_le ρ σ) (h : ai_ws ρ sb tys aw ws) : ai_ws σ sb tys aw ws := ⟨h.1, fun k cl hk => by
  obtain ⟨q, h1, h2⟩ := h.2 k cl hk
  exact ⟨q, h1, h2.up hr⟩⟩
theorem ai_mem.up (hr : ai_le ρ σ) (h : ai_mem ρ sb D A s H locs aw ws tys) : ai_mem σ sb D A s H locs aw ws tys := ⟨h.1, h.2.1, h.2.2.1, h.2.2.2.1, h.2.2.2.2.up hr⟩
theorem ai_stk.up {vs : List Value} (hr : ai_le ρ σ) (h : ai_F2 (ai_mt ρ sb ad) st vs) : ai_F2 (ai_mt σ sb ad) st vs := h.mono (fun _ _ h => h.up hr)
theorem ai_ws.repl {k q : Nat} {e0 : va_E} {c1 : ai_C} (h : ai_ws ρ sb tys aw ws) (hk : ws[k]? = some (q, e0)) (hc : ai_mc ρ sb (ws.map Prod.fst) tys c1 e0) : ai_ws ρ sb tys (aw.set k c1) ws := by
  refine ⟨by rw [List.length_set]; exact h.1, fun i cl hi => ?_⟩
  by_cases ei : k = i
  · subst ei
    rw [List.getElem?_set_self (by rw [h.1]; exact (List.getElem?_eq_some_iff.mp hk).1)] at hi
    cases hi
    exact ⟨(q, e0), hk, hc⟩
  · rw [List.getElem?_set_ne ei] at hi
    exact h.2 i cl hi
theorem ai_mat_ok {v : ai_V} {q : ai_G × ai_V} {u : Value} (hG : ai_gok ρ G) (hm : ai_mt ρ sb ad v u) (h : ai_mat G v = some q) : ∃ σ, ai_le ρ σ ∧ ai_gok σ q.1 ∧ ai_mt σ sb ad q.2 u := by
  unfold ai_mat at h
  obtain ⟨h1, h2⟩ := ai_bif_ok h
  cases h2
  simp only [Bool.and_eq_true, Bool.or_eq_true, beq_iff_eq, decide_eq_true_eq] at h1
  obtain ⟨n, t, lo, hi⟩ := v
  dsimp only at h1 ⊢
  rcases h1.1 with rfl | rfl
  · obtain ⟨y, rfl, g1, g2⟩ := hm
    exact ⟨ai_more ρ G.length y.toInt, ai_more_le hG _, ai_more_ok (q := (lo, hi, 0)) hG g1 g2 trivial, ⟨y, y.toInt, rfl, ai_more_at, by omega⟩⟩
  · obtain ⟨y, rfl, g1, g2⟩ := hm
    exact ⟨ai_more ρ G.length y.toInt, ai_more_le hG _, ai_more_ok (q := (lo, hi, 0)) hG g1 g2 trivial, ⟨y, y.toInt, rfl, ai_more_at, by omega⟩⟩
theorem ai_el_put {n j0 : Nat} {d w : ai_V} {ov : List (Nat × ai_V)} {g : Nat → Value} (hel : ∀ j, j < n → ai_el ρ sb ad j (ai_look d ov j) (g j)) (hv : ai_mt ρ sb ad w (g j0)) : ∀ j, j < n → ai_el ρ sb ad j (ai_look d ((j0, w) :: ov.filter (fun p => !(p.1 == j0))) j) (g j) := by
  intro j hj
  have e0 : ai_look d ((j0, w) :: ov.filter (fun p => !(p.1 == j0))) j = (bif j0 == j then w else ai_look d (ov.filter (fun p => !(p.1 == j0))) j) := rfl
  rw [e0]
  by_cases ej : j0 = j
  · subst ej
    rw [beq_self_eq_true, cond_true]
    exact ai_el.of hv
  · rw [beq_false_of_ne ej, cond_false, ai_look_filter (fun h => ej h.symm)]
    exact hel j hj
theorem ai_ald_ok {ins : Instr} {ty : Nat} (hx : p.tables.exec = Jvm.exec) (hb : c.code = cc) (hG : ai_gok ρ G) (hls : ai_lv ρ sb (ws.map Prod.fst) als md.2.2.2.1 ls) (hst : ai_F2 (ai_mt ρ sb (ws.map Prod.fst)) st stk) (hm : ai_mem ρ sb D A s H locs aw ws tys) (h : ai_ald G als st aw cs ss ty = some (G', x)) (hd : decode cc pc = .ok (ins, 1)) (hins : (ty = 0 ∧ ins = .iaload) ∨ (ty = 1 ∧ ins = .laload) ∨ (ty = 2 ∧ ins = .baload) ∨ (ty = 3 ∧ ins = .aaload)) (K : ∀ σ, ai_le ρ σ → ai_gok σ G' → ai_K p l e R s m args below meth c Q σ sb D A md.2.2.2.1 (ws.map Prod.fst) (pc + 1) x) : W p l e R s m args below meth c H locs cs ss Q (F0 m pc ls stk) := by
  unfold ai_ald at h
  obtain ⟨i, a, r, rfl, h1⟩ := ai_p2_ok h
  obtain ⟨hr, h2⟩ := ai_gd_ok h1
  obtain ⟨cell, hc, h3⟩ := ai_bd_ok h2
  rcases cell with q | ⟨t, n, d, ov⟩
  · cases h3
  dsimp only at h3
  obtain ⟨hi, h4⟩ := ai_gd_ok h3
  obtain ⟨v, hv, h5⟩ := ai_bd_ok h4
  simp only [Bool.and_eq_true, beq_iff_eq] at hi
  obtain ⟨et, hin⟩ := hi
  subst et
  obtain ⟨ui, stk1, rfl, mi, hst1⟩ := hst.cons
  obtain ⟨ua, stk2, rfl, ma, hst2⟩ := hst1.cons
  obtain ⟨q, hq, rfl⟩ := ai_ref ma hr
  obtain ⟨iv, rfl, hb1, hb0, hvp, hlt, hcl, hnm⟩ := ai_inb_ok hG mi hin
  have hij : (ai_b G i).1 ≤ ((iv.toNatClampNeg : Nat) : Int) ∧ ((iv.toNatClampNeg : Nat) : Int) ≤ (ai_b G i).2 := by rw [hcl]; omega
  have hnj : ai_nm ρ i ((iv.toNatClampNeg : Nat) : Int) := by
    have e1 : ((iv.toNatClampNeg : Nat) : Int) = iv.toInt := by rw [hcl]; omega
    rw [e1]; exact hnm
  obtain ⟨hP, hD, hKk, hS, hW⟩ := id hm
  obtain ⟨e9, he, hmc⟩ := ai_cell hW hc hq
  -- what is read goes on
  have go : ∀ (u : Value), ai_mt ρ sb (ws.map Prod.fst) v u → (∀ (σ : ai_Rh) (w : ai_V), ai_le ρ σ → ai_mt σ sb (ws.map Prod.fst) w u → ai_one G i = true → ai_mc σ sb (ws.map Prod.fst) tys (.inr (t, n, d, (((ai_b G i).1.toNat, w) :: ov.filter (fun p => !(p.1 == (ai_b G i).1.toNat))))) e9) → W p l e R s m args below meth c H locs cs ss Q (F0 m (pc + 1) ls (u :: stk2)) := by
    intro u hu hcell
    cases hmq : ai_mat G v with
    | none =>
      rw [hmq] at h5
      cases h5
      exact K ρ ai_le.rf hG ls _ H locs ws tys [] (List.append_nil _).symm hls ⟨hu, hst2⟩ hm
    | some q9 =>
      rw [hmq] at h5
      dsimp only at h5
      obtain ⟨σ, s1, s2, s3⟩ := ai_mat_ok hG hu hmq
      cases ho : ai_one G i with
      | false =>
        rw [ho] at h5
        cases h5
        exact K σ s1 s2 ls _ H locs ws tys [] (List.append_nil _).symm (hls.up s1) ⟨s3, ai_stk.up s1 hst2⟩ (hm.up s1)
      | true =>
        rw [ho] at h5
        cases h5
        exact K σ s1 s2 ls _ H locs ws tys [] (List.append_nil _).symm (hls.up s1) ⟨s3, ai_stk.up s1 hst2⟩ ⟨hP, hD, hKk, hS, (hW.up s1).repl he (hcell σ q9.2 s1 s3 ho)⟩
  have one : ai_one G i = true → (ai_b G i).1.toNat = iv.toNatClampNeg := by
    intro h1
    unfold ai_one at h1
    simp only [Bool.and_eq_true, decide_eq_true_eq] at h1
    omega
  rcases hins with ⟨rfl, rfl⟩ | ⟨rfl, rfl⟩ | ⟨rfl, rfl⟩ | ⟨rfl, rfl⟩
  · obtain ⟨cA, f, t0, rfl, ht, hel⟩ := hmc
    exact va_iald hx hb hKk hP a.2.1 t0 he ht hvp hd (go _ (ai_rd_ok (g := fun j => .int (f j)) hG hel hlt hij hnj (Or.inl ⟨_, rfl, by decide, by decide⟩) hv) (fun σ w s1 s3 ho => ⟨cA, f, t0, rfl, ht, ai_el_put (g := fun j => .int (f j)) (fun j hj => ai_el.up s1 (hel j hj)) (by rw [one ho]; exact s3)⟩))
  · obtain ⟨cA, f, t0, rfl, ht, hel⟩ := hmc
    exact va_lald hx hb hKk hP a.2.1 t0 he ht hvp hd (go _ (ai_rd_ok (g := fun j => .long (f j)) hG hel hlt hij hnj (Or.inr (Or.inl ⟨_, rfl, rfl⟩)) hv) (fun σ w s1 s3 ho => ⟨cA, f, t0, rfl, ht, ai_el_put (g := fun j => .long (f j)) (fun j hj => ai_el.up s1 (hel j hj)) (by rw [one ho]; exact s3)⟩))
  · obtain ⟨cA, f, t0, rfl, ht, hel⟩ := hmc
    exact va_zald hx hb hKk hP a.2.1 t0 he ht hvp hd (go _ (ai_rd_ok (g := fun j => .int (f j)) hG hel hlt hij hnj (Or.inl ⟨_, rfl, by decide, by decide⟩) hv) (fun σ w s1 s3 ho => ⟨cA, f, t0, rfl, ht, ai_el_put (g := fun j => .int (f j)) (fun j hj => ai_el.up s1 (hel j hj)) (by rw [one ho]; exact s3)⟩))
  · obtain ⟨cA, f, t0, rfl, ht, hel⟩ := hmc
    exact va_aldq hx hb hKk hP a.2.1 t0 he ht hvp hd (go _ (ai_rd_ok (g := fun j => va_rf (f j)) hG hel hlt hij hnj (Or.inr (Or.inr rfl)) hv) (fun σ w s1 s3 ho => ⟨cA, f, t0, rfl, ht, ai_el_put (g := fun j => va_rf (f j)) (fun j hj => ai_el.up s1 (hel j hj)) (by rw [one ho]; exact s3)⟩))
theorem ai_rdm_ok {en : ai_E} (hcl : ai_clok) (he : ai_eok md en) (cx : ai_cx p s m args meth c R md A sb L xs) (hG : ai_gok ρ G) (hls : ai_lv ρ sb (ws.map Prod.fst) als md.2.2.2.1 ls) (hst : ai_F2 (ai_mt ρ sb (ws.map Prod.fst)) st stk) (hm : ai_mem ρ sb D A s H locs aw ws tys) (h : ai_rdm en G als st aw cs ss = some (G', x)) (K : ∀ σ, ai_le ρ σ → ai_gok σ G' → ai_K p l e R s m args below meth c Q σ sb D A md.2.2.2.1 (ws.map Prod.fst) (en.1 + en.2.2.1) x) : W p l e R s m args below meth c H locs cs ss Q (F0 m en.1 ls stk) := by
  obtain ⟨hx, hb, hml, hown, hts, hA, hin, hR, hao, hsc⟩ := cx
  obtain ⟨hd, hlen, hw⟩ := he
  obtain ⟨pc0, ins, len, na, nb, ni, nz⟩ := en
  dsimp only at *
  unfold ai_rdm at h
  dsimp only at h
  obtain ⟨hP, hD, hKk, hS, hW⟩ := id hm
  have l1 : ai_len ins = 1 → len = 1 := fun h => by rcases hlen with g | g <;> omega
  have l3 : ai_len ins = 3 → len = 3 := fun h => by rcases hlen with g | g <;> omega
  split at h
  · cases l3 rfl
    obtain ⟨v, r, rfl, hh⟩ := ai_p1_ok h
    obtain ⟨ho, hh⟩ := ai_gd_ok hh
    obtain ⟨cell, hc, hh⟩ := ai_bd_ok hh
    rcases cell with ⟨ci, fs⟩ | q
    · dsimp only at hh
      obtain ⟨hi, h5⟩ := ai_gd_ok hh
      have eci : ci = na := by simpa using hi
      subst eci
      obtain ⟨fv, hf, h6⟩ := ai_bd_ok h5
      obtain ⟨u, stk1, rfl, mv, hst1⟩ := hst.cons
      obtain ⟨a, ha, rfl⟩ := ai_ref mv ho
      obtain ⟨e9, h9, vs, rfl, hfs⟩ := ai_cell hW hc ha
      obtain ⟨fu, hfu, hfm⟩ := hfs.get hf
      obtain ⟨q, hq, hk, hl⟩ := hw
      refine va_get (C := q.1) (T := q.2.1) (N := q.2.2) hx hb hts (hcl ci q hq).1 hown hKk hP v.2.1 h9 hq nb hk (hts _ hl) (fun _ h => h) hfu hd ?_
      cases hmq : ai_mat G fv with
      | none =>
        rw [hmq] at h6
        cases h6
        exact K ρ ai_le.rf hG ls _ H locs ws tys [] (List.append_nil _).symm hls ⟨hfm, hst1⟩ hm
      | some q9 =>
        rw [hmq] at h6
        cases h6
        obtain ⟨σ, s1, s2, s3⟩ := ai_mat_ok hG hfm hmq
        have hset : ai_F2 (ai_mt σ sb (ws.map Prod.fst)) (fs.set nb q9.2) vs := by
          have := ai_F2.set (k := nb) s3 (hfs.mono (fun _ _ h => h.up s1))
          rw [show vs.set nb fu = vs from by
            apply List.ext_getElem?
            intro i
            by_cases ei : nb = i
            · subst ei; rw [List.getElem?_set_self (List.getElem?_eq_some_iff.mp hfu).1, hfu]
            · rw [List.getElem?_set_ne ei]] at this
          exact this
        exact K σ s1 s2 ls _ H locs ws tys [] (List.append_nil _).symm (hls.up s1) ⟨s3, ai_stk.up s1 hst1⟩ ⟨hP, hD, hKk, hS, (hW.up s1).repl h9 ⟨vs, rfl, hset⟩⟩
    · cases hh
  · cases l1 rfl; exact ai_ald_ok hx hb hG hls hst hm h hd (Or.inl ⟨rfl, rfl⟩) K
  · cases l1 rfl; exact ai_ald_ok hx hb hG hls hst hm h hd (Or.inr (Or.inl ⟨rfl, rfl⟩)) K
  · cases l1 rfl; exact ai_ald_ok hx hb hG hls hst hm h hd (Or.inr (Or.inr (Or.inl ⟨rfl, rfl⟩))) K
  · cases l1 rfl; exact ai_ald_ok hx hb hG hls hst hm h hd (Or.inr (Or.inr (Or.inr ⟨rfl, rfl⟩))) K
  · cases h
end ASD
end
section
/-! ===== one held state says less than another: what a loop keeps, what ways that meet have in common ===== -/
abbrev ai_Pl : Type := List Nat × Nat
/-- what is kept: places whose numbers become tokens, these tokens' bounds, locals, cells, what stands on the stack (a tag from 12 on names a new token) -/
abbrev ai_Iv : Type := List ai_Pl × List (Int × Int × Nat) × List (Nat × Option ai_V) × List (List Nat × ((Nat × ai_V) ⊕ (ai_V × List (Nat × ai_V)))) × Option (List ai_V)
/-- a cell, by fields from another on -/
def ai_phf (aw : ai_W) : Nat → List Nat → Option Nat
  | k, [] => some k
  | k, f :: fs => (aw[k]?).bind fun c => match c with
    | .inl (_, vs) => (vs[f]?).bind fun v => ai_gd (ai_isR v) (ai_phf aw v.2.1 fs)
    | .inr _ => none
def ai_ph (als : ai_L) (aw : ai_W) (p : List Nat) : Option Nat := match p with
  | [] => none
  | i :: fs => (ai_lk als i).bind fun v => ai_gd (ai_isR v) (ai_phf aw v.2.1 fs)
/-- a local is said otherwise -/
def ai_rl (i : Nat) (w : ai_V) : ai_L → ai_L
  | [] => []
  | (k, v) :: r => bif k == i then (k, w) :: r else (k, v) :: ai_rl i w r
/-- the number at a place becomes a token -/
def ai_mp1 (G : ai_G) (x : ai_S) (pl : ai_Pl) : Option (ai_G × ai_S × ai_V) := match pl.1 with
  | [] => (ai_lk x.1 pl.2).bind fun v => match ai_mat G v with
    | none => some (G, x, v)
    | some q => some (q.1, (ai_rl pl.2 q.2 x.1, x.2), q.2)
  | p => (ai_ph x.1 x.2.2.1 p).bind fun k => (x.2.2.1[k]?).bind fun c => match c with
    | .inl (ci, fs) => (fs[pl.2]?).bind fun v => match ai_mat G v with
      | none => some (G, x, v)
      | some q => some (q.1, (x.1, x.2.1, x.2.2.1.set k (.inl (ci, fs.set pl.2 q.2)), x.2.2.2), q.2)
    | .inr _ => none
def ai_mps : List ai_Pl → ai_G → ai_S → Option (ai_G × ai_S × List ai_V)
  | [], G, x => some (G, x, [])
  | pl :: r, G, x => (ai_mp1 G x pl).bind fun q => (ai_mps r q.1 q.2.1).bind fun q2 => some (q2.1, q2.2.1, q.2.2 :: q2.2.2)
def ai_vz (u : Value) : Int := match u with
  | .int x => x.toInt
  | .long x => x.toInt
  | _ => 0
def ai_mores (ρ : ai_Rh) : Nat → List Int → ai_Rh
  | _, [] => ρ
  | n, z :: zs => ai_mores (ai_more ρ n z) (n + 1) zs
/-- new tokens' numbers are in their bounds -/
def ai_nchk (G : ai_G) : List ai_V → List (Int × Int × Nat) → Bool
  | [], [] => true
  | v :: vs, q :: qs => (ai_isI v || ai_isL v) && (decide (q.1 ≤ (ai_b G v).1) && (decide ((ai_b G v).2 ≤ q.2.1) && (q.2.2 == 0 && ai_nchk G vs qs)))
  | _, _ => false
/-- y's number is m times cv's and a more -/
def ai_lin (G : ai_G) (y cv : ai_V) (a m : Int) : Bool :=
  bif (cv.1 == 2 || cv.1 == 3) && (y.1 == 2 || y.1 == 3) then y.2.1 == cv.2.1 && (decide (y.2.2.2 = m * cv.2.2.2) && decide (y.2.2.1 = m * cv.2.2.1 + a))
  else decide ((ai_b G y).1 = (ai_b G y).2) && (decide ((ai_b G cv).1 = (ai_b G cv).2) && decide ((ai_b G y).1 = m * (ai_b G cv).1 + a))
def ai_sb (G : ai_G) (nG : Nat) (cvs : List ai_V) (y w : ai_V) : Bool := match w.1 with
  | 0 => ai_isI y && (decide (w.2.2.1 ≤ (ai_b G y).1) && decide ((ai_b G y).2 ≤ w.2.2.2))
  | 1 => ai_isL y && (decide (w.2.2.1 ≤ (ai_b G y).1) && decide ((ai_b G y).2 ≤ w.2.2.2))
  | 2 => bif decide (w.2.1 < nG) then y == w else match cvs[w.2.1 - nG]? with
    | some cv => ai_isI y && ((ai_isI cv || ai_isL cv) && ai_lin G y cv w.2.2.1 w.2.2.2)
    | none => false
  | 3 => bif decide (w.2.1 < nG) then y == w else match cvs[w.2.1 - nG]? with
    | some cv => ai_isL y && ((ai_isI cv || ai_isL cv) && ai_lin G y cv w.2.2.1 w.2.2.2)
    | none => false
  | 4 => y == w
  | 5 => y == w
  | 6 => decide (w.2.1 < nG) && y == w
  | 7 => y == w
  | 8 => bif decide (w.2.1 < nG) then y == w else match cvs[w.2.1 - nG]? with
    | some cv => ai_isI y && ((ai_isI cv || ai_isL cv) && (decide (w.2.2.1 ≤ (ai_b G y).1) && ((y.1 == 2 && (cv.1 == 2 && (y.2.1 == cv.2.1 && (decide (y.2.2.2 = cv.2.2.2) && decide (y.2.2.1 ≤ cv.2.2.1 + w.2.2.2))))) || decide ((ai_b G y).2 ≤ (ai_b G cv).1 + w.2.2.2))))
    | none => false
  | _ => false
def ai_sbe (G : ai_G) (nG : Nat) (cvs : List ai_V) (y w : ai_V) : Bool := bif y.1 == 10 || w.1 == 10 then y == w else ai_sb G nG cvs y w
def ai_all2 {α : Type} (f : α → α → Bool) : List α → List α → Bool
  | [], [] => true
  | a :: as, b :: bs => f a b && ai_all2 f as bs
  | _, _ => false
def ai_sbc (G : ai_G) (nG : Nat) (cvs : List ai_V) (y w : ai_C) : Bool := match y, w with
  | .inl (ci, fs), .inl (ci', fs') => ci == ci' && ai_all2 (ai_sb G nG cvs) fs fs'
  | .inr (t, n, d, ov), .inr (t', n', d', ov') => t == t' && (n == n' && (ai_sbe G nG cvs d d' && (ov.all (fun q => ai_sbe G nG cvs q.2 (ai_look d' ov' q.1)) && ov'.all (fun q => ai_sbe G nG cvs (ai_look d ov q.1) q.2))))
  | _, _ => false
def ai_sbs (G : ai_G) (nG : Nat) (cvs : List ai_V) (y w : ai_S) : Bool :=
  w.1.all (fun q => match ai_lk y.1 q.1 with
    | some v => ai_sb G nG cvs v q.2
    | none => false) && (ai_all2 (ai_sb G nG cvs) y.2.1 w.2.1 && (ai_all2 (ai_sbc G nG cvs) y.2.2.1 w.2.2.1 && (decide (y.2.2.2.1 ≤ w.2.2.2.1) && decide (y.2.2.2.2 ≤ w.2.2.2.2))))
def ai_new (nG : Nat) (w : ai_V) : ai_V := bif decide (12 ≤ w.1) then (w.1 - 10, nG + w.2.1, w.2.2) else w
def ai_ivl (als : ai_L) (nG : Nat) : List (Nat × Option ai_V) → Option ai_L
  | [] => some []
  | (i, o) :: r => (ai_ivl als nG r).bind fun t => match o with
    | some w => some ((i, ai_new nG w) :: t)
    | none => (ai_lk als i).bind fun v => some ((i, v) :: t)
def ai_ivc (als : ai_L) (aw0 : ai_W) (nG : Nat) : List (List Nat × ((Nat × ai_V) ⊕ (ai_V × List (Nat × ai_V)))) → ai_W → Option ai_W
  | [], aw => some aw
  | (p, q) :: r, aw => (ai_ph als aw0 p).bind fun k => (aw[k]?).bind fun c => match q, c with
    | .inl (f, w), .inl (ci, fs) => ai_ivc als aw0 nG r (aw.set k (.inl (ci, fs.set f (ai_new nG w))))
    | .inr (d, ov), .inr (t, n, _, _) => ai_ivc als aw0 nG r (aw.set k (.inr (t, n, ai_new nG d, ov.map fun q => (q.1, ai_new nG q.2))))
    | _, _ => none
/-- the state that is kept, out of the one that arrives -/
def ai_inv (nG : Nat) (x : ai_S) (a : ai_Iv) : Option ai_S := (ai_ivl x.1 nG a.2.2.1).bind fun l => (ai_ivc x.1 x.2.2.1 nG a.2.2.2.1 x.2.2.1).bind fun aw => some (l, (match a.2.2.2.2 with
  | some st => st.map (ai_new nG)
  | none => x.2.1), aw, x.2.2.2)
/-- a state comes under the kept one: what the new tokens are then -/
def ai_hd (a : ai_Iv) (nG : Nat) (iv : ai_S) (G : ai_G) (y : ai_S) : Option (List ai_V) := (ai_mps a.1 G y).bind fun q => ai_gd (ai_nchk q.1 q.2.2 a.2.1 && ai_sbs q.1 nG q.2.2 q.2.1 iv) (some q.2.2)
section ASB
variable {ρ σ τ : ai_Rh} {sb : Nat} {ad : List Nat} {G : ai_G} {nG : Nat} {cvs : List ai_V} {us : List Value}
theorem ai_mores_le : ∀ {zs : List Int} {ρ : ai_Rh} {G : ai_G} {qs : List (Int × Int × Nat)}, ai_gok ρ G → ai_F2 (fun (q : Int × Int × Nat) (z : Int) => q.1 ≤ z ∧ z ≤ q.2.1 ∧ ai_kp q.2.2 z) qs zs → ai_gok (ai_mores ρ G.length zs) (G ++ qs) ∧ ai_le ρ (ai_mores ρ G.length zs) ∧ ∀ (j : Nat) (z : Int), zs[j]? = some z → ai_mores ρ G.length zs (G.length + j) = some z
  | [], ρ, G, qs, h, hq => by
    match qs, hq with
    | [], _ => exact ⟨by rw [List.append_nil]; exact h, ai_le.rf, fun j z hj => by simp at hj⟩
  | z :: zs, ρ, G, qs, h, hq => by
    match qs, hq with
    | q :: qs, hq =>
      have h1 := ai_more_ok (q := q) h hq.1.1 hq.1.2.1 hq.1.2.2
      obtain ⟨g1, g2, g3⟩ := ai_mores_le h1 hq.2
      rw [List.length_append, List.length_singleton] at g1 g2 g3
      refine ⟨by rw [List.append_assoc] at g1; exact g1, (ai_more_le h z).tr g2, fun j w hj => ?_⟩
      cases j with
      | zero =>
        have e : z = w := by simpa using hj
        subst e
        exact g2 _ _ ai_more_at
      | succ j =>
        have := g3 j w (by simpa using hj)
        rw [show G.length + (j + 1) = G.length + 1 + j by omega]
        exact this
theorem ai_num {y : ai_V} {v : Value} (hG : ai_gok σ G) (h : ai_mt σ sb ad y v) (hy : (ai_isI y || ai_isL y) = true) : ((ai_b G y).1 ≤ ai_vz v ∧ ai_vz v ≤ (ai_b G y).2) ∧ ai_nm σ y (ai_vz v) := by
  rw [Bool.or_eq_true] at hy
  rcases hy with hy | hy
  · obtain ⟨x, rfl, h1, h2⟩ := ai_int' hG h hy
    exact ⟨h1, h2⟩
  · obtain ⟨x, rfl, h1, h2⟩ := ai_lng' hG h hy
    exact ⟨h1, h2⟩
theorem ai_lin_ok {y cv : ai_V} {v u : Value} {a m : Int} (hG : ai_gok σ G) (hy : ai_mt σ sb ad y v) (iy : (ai_isI y || ai_isL y) = true) (hc : ai_mt σ sb ad cv u) (ic : (ai_isI cv || ai_isL cv) = true) (h : ai_lin G y cv a m = true) : ai_vz v = m * ai_vz u + a := by
  obtain ⟨by1, ny⟩ := ai_num hG hy iy
  obtain ⟨bc1, nc⟩ := ai_num hG hc ic
  unfold ai_lin at h
  cases hh : ((cv.1 == 2 || cv.1 == 3) && (y.1 == 2 || y.1 == 3)) with
  | true =>
    rw [hh, cond_true] at h
    simp only [Bool.and_eq_true, Bool.or_eq_true, beq_iff_eq, decide_eq_true_eq] at hh h
    obtain ⟨z1, e1, e2⟩ := ny hh.2
    obtain ⟨z2, e3, e4⟩ := nc hh.1
    rw [h.1] at e1
    cases e1.symm.trans e3
    rw [e2, e4, h.2.1, h.2.2, Int.mul_add, Int.mul_assoc, Int.add_assoc]
  | false =>
    rw [hh, cond_false] at h
    simp only [Bool.and_eq_true, decide_eq_true_eq] at h
    obtain ⟨h1, h2, h3⟩ := h
    have e1 : ai_vz v = (ai_b G y).1 := by omega
    have e2 : ai_vz u = (ai_b G cv).1 := by omega
    rw [e1, e2, h3]
theorem ai_sb_ok {y w : ai_V} {v : Value} (hG : ai_gok σ G) (hag : ∀ t z, t < nG → σ t = some z → τ t = some z) (hcv : ai_F2 (ai_mt σ sb ad) cvs us) (hnw : ∀ (j : Nat) (u : Value), us[j]? = some u → τ (nG + j) = some (ai_vz u)) (h : ai_sb G nG cvs y w = true) (hm : ai_mt σ sb ad y v) : ai_mt τ sb ad w v := by
  obtain ⟨n, t, lo, hi⟩ := w
  unfold ai_sb at h
  dsimp only at h
  split at h
  · simp only [Bool.and_eq_true, decide_eq_true_eq] at h
    obtain ⟨x, rfl, h1, -⟩ := ai_int' hG hm h.1
    exact ⟨x, rfl, by omega, by omega⟩
  · simp only [Bool.and_eq_true, decide_eq_true_eq] at h
    obtain ⟨x, rfl, h1, -⟩ := ai_lng' hG hm h.1
    exact ⟨x, rfl, by omega, by omega⟩
  · cases ht : decide (t < nG) with
    | true =>
      rw [ht, cond_true] at h
      have e := eq_of_beq h
      subst e
      obtain ⟨x, z, e1, e2, e3⟩ := hm
      exact ⟨x, z, e1, hag _ _ (of_decide_eq_true ht) e2, e3⟩
    | false =>
      rw [ht, cond_false] at h
      split at h
      · rename_i cv hc
        simp only [Bool.and_eq_true] at h
        obtain ⟨h1, h2, h3⟩ := h
        obtain ⟨u, hu, mu⟩ := hcv.get hc
        have key := ai_lin_ok hG hm (by rw [h1]; rfl) mu h2 h3
        obtain ⟨x, rfl, -⟩ := ai_int' hG hm h1
        have e5 : nG + (t - nG) = t := by have := of_decide_eq_false ht; omega
        exact ⟨x, ai_vz u, rfl, by rw [← e5]; exact hnw _ _ hu, key⟩
      · cases h
  · cases ht : decide (t < nG) with
    | true =>
      rw [ht, cond_true] at h
      have e := eq_of_beq h
      subst e
      obtain ⟨x, z, e1, e2, e3⟩ := hm
      exact ⟨x, z, e1, hag _ _ (of_decide_eq_true ht) e2, e3⟩
    | false =>
      rw [ht, cond_false] at h
      split at h
      · rename_i cv hc
        simp only [Bool.and_eq_true] at h
        obtain ⟨h1, h2, h3⟩ := h
        obtain ⟨u, hu, mu⟩ := hcv.get hc
        have key := ai_lin_ok hG hm (by rw [h1, Bool.or_true]) mu h2 h3
        obtain ⟨x, rfl, -⟩ := ai_lng' hG hm h1
        have e5 : nG + (t - nG) = t := by have := of_decide_eq_false ht; omega
        exact ⟨x, ai_vz u, rfl, by rw [← e5]; exact hnw _ _ hu, key⟩
      · cases h
  · have e := eq_of_beq h
    subst e
    exact hm
  · have e := eq_of_beq h
    subst e
    exact hm
  · rw [Bool.and_eq_true] at h
    have e := eq_of_beq h.2
    subst e
    obtain ⟨x, z, e1, e2, e3⟩ := hm
    exact ⟨x, z, e1, hag _ _ (of_decide_eq_true h.1) e2, e3⟩
  · have e := eq_of_beq h
    subst e
    exact hm
  · cases ht : decide (t < nG) with
    | true =>
      rw [ht, cond_true] at h
      have e := eq_of_beq h
      subst e
      obtain ⟨x, z, e1, e2, e3⟩ := hm
      exact ⟨x, z, e1, hag _ _ (of_decide_eq_true ht) e2, e3⟩
    | false =>
      rw [ht, cond_false] at h
      split at h
      · rename_i cv hc
        simp only [Bool.and_eq_true, Bool.or_eq_true, decide_eq_true_eq, beq_iff_eq] at h
        obtain ⟨h1, h2, h3, h4⟩ := h
        obtain ⟨u, hu, mu⟩ := hcv.get hc
        obtain ⟨bc1, nc⟩ := ai_num hG mu (by rw [Bool.or_eq_true]; exact h2)
        obtain ⟨x, rfl, by1, ny⟩ := ai_int' hG hm h1
        have e5 : nG + (t - nG) = t := by have := of_decide_eq_false ht; omega
        refine ⟨x, ai_vz u, rfl, by rw [← e5]; exact hnw _ _ hu, by omega, ?_⟩
        rcases h4 with ⟨g1, g2, g3, g4, g5⟩ | g
        · obtain ⟨z1, a1, a2⟩ := ny (Or.inl g1)
          obtain ⟨z2, a3, a4⟩ := nc (Or.inl g2)
          rw [g3] at a1
          cases a1.symm.trans a3
          rw [g4] at a2
          omega
        · omega
      · cases h
  · cases h
end ASB
end
section
section ASG
variable {p : Program} {l : Launch} {e : Env} {R : Room} {s : State} {m : MethodId} {args : Array Value} {below : List Frame} {meth : Method} {c : Code} {H : Heap} {locs : List Loc} {Q : State → Prop} {ρ σ τ : ai_Rh} {sb : Nat} {D : va_G} {A : Nat → Prop}
variable {ls : Array Slot} {stk : List Value} {ws : va_W} {tys : List (ClassId × FieldType)} {G G' : ai_G} {nL nG : Nat} {cvs : List ai_V} {us : List Value} {pc : Nat} {ad : List Nat} {x x' y w : ai_S}
/-! ===== states that say less ===== -/
theorem ai_all2_ok {α β : Type} {f : α → α → Bool} {P S : α → β → Prop} (hf : ∀ a b v, f a b = true → P a v → S b v) : ∀ {as bs : List α} {vs : List β}, ai_all2 f as bs = true → ai_F2 P as vs → ai_F2 S bs vs
  | [], [], [], _, _ => trivial
  | a :: as, b :: bs, v :: vs, h, g => by
    unfold ai_all2 at h
    rw [Bool.and_eq_true] at h
    exact ⟨hf _ _ _ h.1 g.1, ai_all2_ok hf h.2 g.2⟩
  | [], [], _ :: _, _, g => g.elim
  | _ :: _, _ :: _, [], _, g => g.elim
  | [], _ :: _, _, h, _ => by cases h
  | _ :: _, [], _, h, _ => by cases h
theorem ai_all2_len {α : Type} {f : α → α → Bool} : ∀ {as bs : List α}, ai_all2 f as bs = true → as.length = bs.length
  | [], [], _ => rfl
  | a :: as, b :: bs, h => by
    unfold ai_all2 at h
    rw [Bool.and_eq_true] at h
    rw [List.length_cons, List.length_cons, ai_all2_len h.2]
  | [], _ :: _, h => by cases h
  | _ :: _, [], h => by cases h
theorem ai_all2_get {α : Type} {f : α → α → Bool} : ∀ {as bs : List α} {k : Nat} {b : α}, ai_all2 f as bs = true → bs[k]? = some b → ∃ a, as[k]? = some a ∧ f a b = true
  | [], [], _, _, _, hk => by simp at hk
  | a :: as, b :: bs, 0, b', h, hk => by
    unfold ai_all2 at h
    rw [Bool.and_eq_true] at h
    have e : b = b' := by simpa using hk
    exact ⟨a, rfl, e ▸ h.1⟩
  | a :: as, b :: bs, k + 1, b', h, hk => by
    unfold ai_all2 at h
    rw [Bool.and_eq_true] at h
    obtain ⟨a', h1, h2⟩ := ai_all2_get (k := k) h.2 (by simpa using hk)
    exact ⟨a', by simpa using h1, h2⟩
  | [], _ :: _, _, _, h, _ => by cases h
  | _ :: _, [], _, _, h, _ => by cases h
theorem ai_sbe_ok {j : Nat} {y w : ai_V} {v : Value} (hG : ai_gok σ G) (hag : ∀ t z, t < nG → σ t = some z → τ t = some z) (hcv : ai_F2 (ai_mt σ sb ad) cvs us) (hnw : ∀ (j : Nat) (u : Value), us[j]? = some u → τ (nG + j) = some (ai_vz u)) (h : ai_sbe G nG cvs y w = true) (hm : ai_el σ sb ad j y v) : ai_el τ sb ad j w v := by
  unfold ai_sbe at h
  cases h1 : (y.1 == 10 || w.1 == 10) with
  | true =>
    rw [h1, cond_true] at h
    have e := eq_of_beq h
    subst e
    have e10 : y.1 = 10 := by simpa using h1
    unfold ai_el at hm ⊢
    rw [if_pos e10] at hm ⊢
    exact hm
  | false =>
    rw [h1, cond_false] at h
    rw [Bool.or_eq_false_iff] at h1
    exact ai_el.of (ai_sb_ok hG hag hcv hnw h (hm.to (by simpa using h1.1)))
theorem ai_look_at {d : ai_V} : ∀ (ov : List (Nat × ai_V)) (j : Nat), (∀ q ∈ ov, ¬ q.1 = j) → ai_look d ov j = d
  | [], _, _ => rfl
  | (k, v) :: r, j, h => by
    have e : ai_look d ((k, v) :: r) j = (bif k == j then v else ai_look d r j) := rfl
    rw [e, beq_false_of_ne (h _ List.mem_cons_self), cond_false]
    exact ai_look_at r j (fun q hq => h q (List.mem_cons_of_mem _ hq))
theorem ai_sbo {t : Nat} {d d' : ai_V} {ov ov' : List (Nat × ai_V)} {j : Nat} {v : Value} (hG : ai_gok σ G) (hag : ∀ t z, t < nG → σ t = some z → τ t = some z) (hcv : ai_F2 (ai_mt σ sb ad) cvs us) (hnw : ∀ (j : Nat) (u : Value), us[j]? = some u → τ (nG + j) = some (ai_vz u)) (h1 : ai_sbe G nG cvs d d' = true) (h2 : ov.all (fun q => ai_sbe G nG cvs q.2 (ai_look d' ov' q.1)) = true) (h3 : ov'.all (fun q => ai_sbe G nG cvs (ai_look d ov q.1) q.2) = true) (hm : ai_el σ sb ad j (ai_look d ov j) v) : ai_el τ sb ad j (ai_look d' ov' j) v := by
  rw [List.all_eq_true] at h2 h3
  rcases ai_look_or (d := d) ov j with e | ⟨q, hq, e1, e2⟩
  · rcases ai_look_or (d := d') ov' j with e' | ⟨q', hq', e1', e2'⟩
    · rw [e']
      rw [e] at hm
      exact ai_sbe_ok hG hag hcv hnw h1 hm
    · have := h3 q' hq'
      rw [e1'] at this
      rw [e2']
      exact ai_sbe_ok hG hag hcv hnw this hm
  · have := h2 q hq
    rw [e1] at this
    rw [e2] at hm
    exact ai_sbe_ok hG hag hcv hnw this hm
theorem ai_sbc_ok {y w : ai_C} {e9 : va_E} (hG : ai_gok σ G) (hag : ∀ t z, t < nG → σ t = some z → τ t = some z) (hcv : ai_F2 (ai_mt σ sb ad) cvs us) (hnw : ∀ (j : Nat) (u : Value), us[j]? = some u → τ (nG + j) = some (ai_vz u)) (h : ai_sbc G nG cvs y w = true) (hm : ai_mc σ sb ad tys y e9) : ai_mc τ sb ad tys w e9 := by
  rcases y with ⟨ci, fs⟩ | ⟨t, n, d, ov⟩
  · rcases w with ⟨ci', fs'⟩ | ⟨t', n', d', ov'⟩
    · unfold ai_sbc at h
      dsimp only at h
      rw [Bool.and_eq_true] at h
      have e1 : ci = ci' := by simpa using h.1
      subst e1
      obtain ⟨vs, g1, g2⟩ := hm
      exact ⟨vs, g1, ai_all2_ok (P := ai_mt σ sb ad) (S := ai_mt τ sb ad) (fun _ _ _ h g => ai_sb_ok hG hag hcv hnw h g) h.2 g2⟩
    · cases h
  · rcases w with ⟨ci', fs'⟩ | ⟨t', n', d', ov'⟩
    · cases h
    · unfold ai_sbc at h
      dsimp only at h
      simp only [Bool.and_eq_true, beq_iff_eq] at h
      obtain ⟨h1, h2, h3, h4, h5⟩ := h
      subst h1; subst h2
      match t, hm with
      | 0, hm => obtain ⟨cA, f, t0, g1, g2, g3⟩ := hm; exact ⟨cA, f, t0, g1, g2, fun j hj => ai_sbo (t := 0) hG hag hcv hnw h3 h4 h5 (g3 j hj)⟩
      | 1, hm => obtain ⟨cA, f, t0, g1, g2, g3⟩ := hm; exact ⟨cA, f, t0, g1, g2, fun j hj => ai_sbo (t := 0) hG hag hcv hnw h3 h4 h5 (g3 j hj)⟩
      | 2, hm => obtain ⟨cA, f, t0, g1, g2, g3⟩ := hm; exact ⟨cA, f, t0, g1, g2, fun j hj => ai_sbo (t := 0) hG hag hcv hnw h3 h4 h5 (g3 j hj)⟩
      | 3, hm => obtain ⟨cA, f, t0, g1, g2, g3⟩ := hm; exact ⟨cA, f, t0, g1, g2, fun j hj => ai_sbo (t := 0) hG hag hcv hnw h3 h4 h5 (g3 j hj)⟩
      | n + 4, hm => exact hm.elim
theorem ai_sbw_ok {aw aw' : ai_W} (hG : ai_gok σ G) (hag : ∀ t z, t < nG → σ t = some z → τ t = some z) (hcv : ai_F2 (ai_mt σ sb (ws.map Prod.fst)) cvs us) (hnw : ∀ (j : Nat) (u : Value), us[j]? = some u → τ (nG + j) = some (ai_vz u)) (h : ai_all2 (ai_sbc G nG cvs) aw aw' = true) (hm : ai_ws σ sb tys aw ws) : ai_ws τ sb tys aw' ws := by
  refine ⟨by rw [← ai_all2_len h]; exact hm.1, fun k cl hk => ?_⟩
  obtain ⟨a, h1, h2⟩ := ai_all2_get h hk
  obtain ⟨q, g1, g2⟩ := hm.2 k a h1
  exact ⟨q, g1, ai_sbc_ok hG hag hcv hnw h2 g2⟩
theorem ai_sbl_ok {als als' : ai_L} (hG : ai_gok σ G) (hag : ∀ t z, t < nG → σ t = some z → τ t = some z) (hcv : ai_F2 (ai_mt σ sb ad) cvs us) (hnw : ∀ (j : Nat) (u : Value), us[j]? = some u → τ (nG + j) = some (ai_vz u)) (h : als'.all (fun q => match ai_lk als q.1 with
    | some v => ai_sb G nG cvs v q.2
    | none => false) = true) (hm : ai_lv σ sb ad als nL ls) : ai_lv τ sb ad als' nL ls := by
  obtain ⟨lv, h1, h2⟩ := hm
  have key : ∀ (l' : ai_L), (∀ q ∈ l', (match ai_lk als q.1 with
    | some v => ai_sb G nG cvs v q.2
    | none => false) = true) → ∃ lv', (∀ q ∈ lv', q ∈ lv) ∧ ai_F2 (fun (a : Nat × ai_V) (q : Nat × Value) => a.1 = q.1 ∧ ai_mt τ sb ad a.2 q.2) l' lv' := by
    intro l'
    induction l' with
    | nil => intro _; exact ⟨[], (fun _ h => absurd h List.not_mem_nil), trivial⟩
    | cons q r ih =>
      intro hq
      obtain ⟨lv', g1, g2⟩ := ih (fun q' h' => hq q' (List.mem_cons_of_mem _ h'))
      have hq0 := hq q List.mem_cons_self
      cases hk : ai_lk als q.1 with
      | none => rw [hk] at hq0; cases hq0
      | some v =>
        rw [hk] at hq0
        obtain ⟨k, u, g3, g4⟩ := ai_lk_ok hk h2
        refine ⟨(q.1, u) :: lv', fun q' h' => ?_, ⟨rfl, ai_sb_ok hG hag hcv hnw hq0 g4⟩, g2⟩
        rcases List.mem_cons.mp h' with rfl | h'
        · exact List.mem_of_getElem? g3
        · exact g1 _ h'
  rw [List.all_eq_true] at h
  obtain ⟨lv', g1, g2⟩ := key als' h
  exact ⟨lv', ⟨h1.1, h1.2.1, fun q hq => h1.2.2 q (g1 q hq)⟩, g2⟩
/-- what goes on from the state that says less goes on from the one that says more -/
theorem ai_sbs_ok {yy : List Nat} (hG : ai_gok σ G) (hag : ∀ t z, t < nG → σ t = some z → τ t = some z) (hcv : ai_F2 (ai_mt σ sb (ws.map Prod.fst)) cvs us) (hnw : ∀ (j : Nat) (u : Value), us[j]? = some u → τ (nG + j) = some (ai_vz u)) (h : ai_sbs G nG cvs y w = true) (hy : ws.map Prod.fst = ad ++ yy) (hls : ai_lv σ sb (ws.map Prod.fst) y.1 nL ls) (hst : ai_F2 (ai_mt σ sb (ws.map Prod.fst)) y.2.1 stk) (hm : ai_mem σ sb D A s H locs y.2.2.1 ws tys) (K : ai_K p l e R s m args below meth c Q τ sb D A nL ad pc w) : W p l e R s m args below meth c H locs y.2.2.2.1 y.2.2.2.2 Q (F0 m pc ls stk) := by
  unfold ai_sbs at h
  simp only [Bool.and_eq_true, decide_eq_true_eq] at h
  obtain ⟨h1, h2, h3, h4, h5⟩ := h
  refine W.widen h4 h5 (K ls stk H locs ws tys yy hy (ai_sbl_ok hG hag hcv hnw h1 hls) (ai_all2_ok (P := ai_mt σ sb (ws.map Prod.fst)) (S := ai_mt τ sb (ws.map Prod.fst)) (fun _ _ _ h g => ai_sb_ok hG hag hcv hnw h g) h2 hst) ⟨hm.1, hm.2.1, hm.2.2.1, hm.2.2.2.1, ai_sbw_ok hG hag hcv hnw h3 hm.2.2.2.2⟩)
theorem ai_rl_ok {i : Nat} : ∀ {als : ai_L} {lv : List (Nat × Value)} {v : ai_V}, ai_lk als i = some v → ai_F2 (fun (a : Nat × ai_V) (q : Nat × Value) => a.1 = q.1 ∧ ai_mt ρ sb ad a.2 q.2) als lv → ∃ u, ai_mt ρ sb ad v u ∧ ∀ (σ : ai_Rh) (w : ai_V), ai_le ρ σ → ai_mt σ sb ad w u → ai_F2 (fun (a : Nat × ai_V) (q : Nat × Value) => a.1 = q.1 ∧ ai_mt σ sb ad a.2 q.2) (ai_rl i w als) lv
  | [], _, _, h, _ => by cases h
  | (k, v0) :: r, lv, v, h, hF => by
    obtain ⟨q, lv', rfl, h1, h2⟩ := hF.cons
    unfold ai_lk at h
    cases hk : (k == i) with
    | true =>
      rw [hk] at h
      cases h
      refine ⟨q.2, h1.2, fun σ w hr hw => ?_⟩
      unfold ai_rl
      rw [hk]
      exact ⟨⟨h1.1, hw⟩, h2.mono (fun _ _ g => ⟨g.1, g.2.up hr⟩)⟩
    | false =>
      rw [hk] at h
      obtain ⟨u, g1, g2⟩ := ai_rl_ok h h2
      refine ⟨u, g1, fun σ w hr hw => ?_⟩
      unfold ai_rl
      rw [hk]
      exact ⟨⟨h1.1, h1.2.up hr⟩, g2 σ w hr hw⟩
theorem ai_mp1_ok {pl : ai_Pl} {v : ai_V} (hG : ai_gok ρ G) (hls : ai_lv ρ sb (ws.map Prod.fst) x.1 nL ls) (hst : ai_F2 (ai_mt ρ sb (ws.map Prod.fst)) x.2.1 stk) (hm : ai_mem ρ sb D A s H locs x.2.2.1 ws tys) (h : ai_mp1 G x pl = some (G', x', v)) : x'.2.2.2 = x.2.2.2 ∧ ∃ σ, ai_le ρ σ ∧ ai_gok σ G' ∧ ai_lv σ sb (ws.map Prod.fst) x'.1 nL ls ∧ ai_F2 (ai_mt σ sb (ws.map Prod.fst)) x'.2.1 stk ∧ ai_mem σ sb D A s H locs x'.2.2.1 ws tys ∧ ∃ u, ai_mt σ sb (ws.map Prod.fst) v u := by
  unfold ai_mp1 at h
  split at h
  · obtain ⟨v0, hv, h1⟩ := ai_bd_ok h
    obtain ⟨lv, l1, l2⟩ := hls
    obtain ⟨u, g1, g2⟩ := ai_rl_ok hv l2
    cases hmq : ai_mat G v0 with
    | none =>
      rw [hmq] at h1
      cases h1
      exact ⟨rfl, ρ, ai_le.rf, hG, ⟨lv, l1, l2⟩, hst, hm, u, g1⟩
    | some q =>
      rw [hmq] at h1
      cases h1
      obtain ⟨σ, s1, s2, s3⟩ := ai_mat_ok hG g1 hmq
      exact ⟨rfl, σ, s1, s2, ⟨lv, l1, g2 σ q.2 s1 s3⟩, ai_stk.up s1 hst, hm.up s1, u, s3⟩
  · obtain ⟨k, hk, h1⟩ := ai_bd_ok h
    obtain ⟨cl, hc, h2⟩ := ai_bd_ok h1
    rcases cl with ⟨ci, fs⟩ | q
    · dsimp only at h2
      obtain ⟨v0, hv, h3⟩ := ai_bd_ok h2
      obtain ⟨hP, hD, hKk, hS, hW⟩ := id hm
      obtain ⟨⟨q0, e9⟩, g1, vs, rfl, g2⟩ := hW.2 k _ hc
      obtain ⟨u, hu, mu⟩ := g2.get hv
      cases hmq : ai_mat G v0 with
      | none =>
        rw [hmq] at h3
        cases h3
        exact ⟨rfl, ρ, ai_le.rf, hG, hls, hst, hm, u, mu⟩
      | some q =>
        rw [hmq] at h3
        cases h3
        obtain ⟨σ, s1, s2, s3⟩ := ai_mat_ok hG mu hmq
        have hset : ai_F2 (ai_mt σ sb (ws.map Prod.fst)) (fs.set pl.2 q.2) vs := by
          have := ai_F2.set (k := pl.2) s3 (g2.mono (fun _ _ h => h.up s1))
          rw [show vs.set pl.2 u = vs from by
            apply List.ext_getElem?
            intro i
            by_cases ei : pl.2 = i
            · rw [← ei, List.getElem?_set_self (List.getElem?_eq_some_iff.mp hu).1, hu]
            · rw [List.getElem?_set_ne ei]] at this
          exact this
        exact ⟨rfl, σ, s1, s2, hls.up s1, ai_stk.up s1 hst, ⟨hP, hD, hKk, hS, (hW.up s1).repl g1 ⟨vs, rfl, hset⟩⟩, u, s3⟩
    · cases h2
theorem ai_mps_ok : ∀ {pls : List ai_Pl} {ρ : ai_Rh} {G : ai_G} {x : ai_S} {G' : ai_G} {x' : ai_S} {cvs : List ai_V}, ai_gok ρ G → ai_lv ρ sb (ws.map Prod.fst) x.1 nL ls → ai_F2 (ai_mt ρ sb (ws.map Prod.fst)) x.2.1 stk → ai_mem ρ sb D A s H locs x.2.2.1 ws tys → ai_mps pls G x = some (G', x', cvs) → x'.2.2.2 = x.2.2.2 ∧ ∃ σ, ai_le ρ σ ∧ ai_gok σ G' ∧ ai_lv σ sb (ws.map Prod.fst) x'.1 nL ls ∧ ai_F2 (ai_mt σ sb (ws.map Prod.fst)) x'.2.1 stk ∧ ai_mem σ sb D A s H locs x'.2.2.1 ws tys ∧ ∃ us, ai_F2 (ai_mt σ sb (ws.map Prod.fst)) cvs us
  | [], ρ, G, x, G', x', cvs, hG, hls, hst, hm, h => by
    cases h
    exact ⟨rfl, ρ, ai_le.rf, hG, hls, hst, hm, [], trivial⟩
  | pl :: r, ρ, G, x, G', x', cvs, hG, hls, hst, hm, h => by
    unfold ai_mps at h
    obtain ⟨⟨G1, x1, v⟩, h1, h2⟩ := ai_bd_ok h
    obtain ⟨⟨G2, x2, vs⟩, h3, h4⟩ := ai_bd_ok h2
    cases h4
    obtain ⟨c1, σ, s1, s2, s3, s4, s5, u, s6⟩ := ai_mp1_ok hG hls hst hm h1
    obtain ⟨c2, τ, t1, t2, t3, t4, t5, us, t6⟩ := ai_mps_ok s2 s3 s4 s5 h3
    exact ⟨c2.trans c1, τ, s1.tr t1, t2, t3, t4, t5, u :: us, s6.up t1, t6⟩
theorem ai_nchk_ok : ∀ {cvs : List ai_V} {qs : List (Int × Int × Nat)} {us : List Value}, ai_gok σ G → ai_F2 (ai_mt σ sb ad) cvs us → ai_nchk G cvs qs = true → ai_F2 (fun (q : Int × Int × Nat) (z : Int) => q.1 ≤ z ∧ z ≤ q.2.1 ∧ ai_kp q.2.2 z) qs (us.map ai_vz)
  | [], [], us, _, h, _ => by rw [h.nil]; trivial
  | v :: vs, q :: qs, us, hG, h, hc => by
    obtain ⟨u, us', rfl, h1, h2⟩ := h.cons
    unfold ai_nchk at hc
    simp only [Bool.and_eq_true, decide_eq_true_eq, beq_iff_eq] at hc
    obtain ⟨c1, c2, c3, c4, c5⟩ := hc
    obtain ⟨b1, -⟩ := ai_num hG h1 c1
    refine ⟨⟨by omega, by omega, ?_⟩, ai_nchk_ok hG h2 c5⟩
    rw [c4]
    trivial
  | [], _ :: _, _, _, _, hc => by cases hc
  | _ :: _, [], _, _, _, hc => by cases hc
theorem ai_hd_ok {a : ai_Iv} {iv : ai_S} {G0 G1 : ai_G} (hG0 : ai_gok ρ G0) (hr : ai_le ρ σ) (hG1 : ai_gok σ G1) (h : ai_hd a G0.length iv G1 y = some cvs) (K : ∀ (zs : List Int), ai_F2 (fun (q : Int × Int × Nat) (z : Int) => q.1 ≤ z ∧ z ≤ q.2.1 ∧ ai_kp q.2.2 z) a.2.1 zs → (∀ cv r, cvs = cv :: r → ∃ (z : Int) (zr : List Int) (τ : ai_Rh), zs = z :: zr ∧ ai_le σ τ ∧ ai_nm τ cv z) → ai_K p l e R s m args below meth c Q (ai_mores ρ G0.length zs) sb D A nL ad pc iv) : ai_K p l e R s m args below meth c Q σ sb D A nL ad pc y := by
  intro ls stk H locs ws tys yy hy hls hst hm
  unfold ai_hd at h
  obtain ⟨⟨G2, x2, cv2⟩, h1, h2⟩ := ai_bd_ok h
  obtain ⟨h3, h4⟩ := ai_gd_ok h2
  cases h4
  rw [Bool.and_eq_true] at h3
  obtain ⟨c1, τ, t1, t2, t3, t4, t5, us, t6⟩ := ai_mps_ok hG1 hls hst hm h1
  have hb := ai_nchk_ok t2 t6 h3.1
  obtain ⟨g1, g2, g3⟩ := ai_mores_le hG0 hb
  have hK := K (us.map ai_vz) hb (by
    intro cv r hc
    dsimp only at hc
    rw [hc] at t6
    obtain ⟨u, us', rfl, m1, m2⟩ := t6.cons
    refine ⟨ai_vz u, us'.map ai_vz, τ, rfl, t1, ?_⟩
    have h31 := h3.1
    dsimp only at h31
    rw [hc] at h31
    match hq : a.2.1, h31 with
    | [], h31 => cases h31
    | q :: qs, h31 =>
      unfold ai_nchk at h31
      simp only [Bool.and_eq_true] at h31
      exact (ai_num t2 m1 h31.1).2)
  have := ai_sbs_ok (nG := G0.length) (τ := ai_mores ρ G0.length (us.map ai_vz)) t2 (fun t z ht hz => by
    obtain ⟨z0, e0, -⟩ := hG0.at (List.getElem?_eq_getElem ht)
    have e1 := t1 _ _ (hr _ _ e0)
    rw [hz] at e1
    cases e1
    exact g2 _ _ e0) t6 (fun j u hj => g3 j (ai_vz u) (by rw [List.getElem?_map, hj]; rfl)) h3.2 hy t3 t4 t5 hK
  dsimp only at c1 this
  rw [c1] at this
  exact this
end ASG
end
section
/-! ===== the walk with jumps, calls, loops ===== -/
def ai_op (q : Jvm.ClassFile.Cond) : Nat := match q with
  | .eq => 0
  | .ne => 1
  | .lt => 2
  | .ge => 3
  | .gt => 4
  | .le => 5
def ai_cb (op : Nat) (x y : Int) : Bool := match op with
  | 0 => decide (x = y)
  | 1 => !decide (x = y)
  | 2 => decide (x < y)
  | 3 => !decide (x < y)
  | 4 => decide (y < x)
  | _ => !decide (y < x)
theorem ai_cb_ok {op : Nat} {x y : Int} : ai_cP op x y ↔ ai_cb op x y = true := by
  match op with
  | 0 => simp [ai_cP, ai_cb]
  | 1 => simp [ai_cP, ai_cb]
  | 2 => simp [ai_cP, ai_cb]
  | 3 => simp [ai_cP, ai_cb]
  | 4 => simp [ai_cP, ai_cb]
  | n + 5 => simp [ai_cP, ai_cb]
theorem ai_cP_add {op : Nat} {x y z : Int} : ai_cP op (z + x) (z + y) ↔ ai_cP op x y := by
  match op with
  | 0 => simp only [ai_cP]; omega
  | 1 => simp only [ai_cP]; omega
  | 2 => simp only [ai_cP]; omega
  | 3 => simp only [ai_cP]; omega
  | 4 => simp only [ai_cP]; omega
  | n + 5 => simp only [ai_cP]; omega
/-- is a comparison known? (numbers of one token, too) -/
def ai_dc (G : ai_G) (op : Nat) (a b : ai_V) : Option Bool := bif (a.1 == 2 || a.1 == 3) && ((b.1 == 2 || b.1 == 3) && (a.2.1 == b.2.1 && decide (a.2.2.2 = b.2.2.2))) then some (ai_cb op a.2.2.1 b.2.2.1) else ai_dec op (ai_b G a) (ai_b G b)
theorem ai_dc_ok {ρ : ai_Rh} {G : ai_G} {op : Nat} {a b : ai_V} {x y : Int} {r : Bool} (hx : ai_nm ρ a x) (hy : ai_nm ρ b y) (hA : (ai_b G a).1 ≤ x ∧ x ≤ (ai_b G a).2) (hB : (ai_b G b).1 ≤ y ∧ y ≤ (ai_b G b).2) (h : ai_dc G op a b = some r) : ai_cP op x y ↔ r = true := by
  unfold ai_dc at h
  cases h1 : ((a.1 == 2 || a.1 == 3) && ((b.1 == 2 || b.1 == 3) && (a.2.1 == b.2.1 && decide (a.2.2.2 = b.2.2.2)))) with
  | false => rw [h1] at h; exact ai_dec_ok hA hB h
  | true =>
    rw [h1] at h
    cases h
    simp only [Bool.and_eq_true, Bool.or_eq_true, beq_iff_eq, decide_eq_true_eq] at h1
    obtain ⟨z1, e1, e2⟩ := hx h1.1
    obtain ⟨z2, e3, e4⟩ := hy h1.2.1
    rw [h1.2.2.1] at e1
    cases e1.symm.trans e3
    rw [h1.2.2.2] at e2
    rw [e2, e4, ai_cP_add]
    exact ai_cb_ok
def ai_join {α : Type} (a b : Option (List α)) : Option (List α) := match a with
  | some x => match b with
    | some y => some (x ++ y)
    | none => none
  | none => none
theorem ai_join_ok {α : Type} {a b : Option (List α)} {z : List α} (h : ai_join a b = some z) : ∃ x y, a = some x ∧ b = some y ∧ z = x ++ y := by
  match a, b, h with
  | some x, some y, h => cases h; exact ⟨x, y, rfl, rfl, rfl⟩
  | some x, none, h => cases h
  | none, _, h => cases h
def ai_all {α : Type} (f : α → Option (List ai_O)) : List α → Option (List ai_O)
  | [] => some []
  | o :: r => ai_join (f o) (ai_all f r)
theorem ai_all_ok {α : Type} {f : α → Option (List ai_O)} : ∀ {l : List α} {z : List ai_O}, ai_all f l = some z → ∀ o ∈ l, ∃ y, f o = some y ∧ ∀ q ∈ y, q ∈ z
  | [], _, _, o, ho => by cases ho
  | o :: r, z, h, o', ho => by
    obtain ⟨x, y, h1, h2, rfl⟩ := ai_join_ok h
    rcases List.mem_cons.mp ho with rfl | ho
    · exact ⟨x, h1, fun q hq => List.mem_append_left _ hq⟩
    · obtain ⟨w, g1, g2⟩ := ai_all_ok h2 o' ho
      exact ⟨w, g1, fun q hq => List.mem_append_right _ (g2 q hq)⟩
/-- a loop: 0 its first token goes up, else down; what it keeps -/
abbrev ai_An : Type := Nat × ai_Iv
abbrev ai_Fn : Type := List Nat → List ai_E → ai_G → ai_S → Option (List ai_O)
def ai_prog (dir nG : Nat) (cv : ai_V) : Bool := (cv.1 == 2 || cv.1 == 3) && (cv.2.1 == nG && (decide (cv.2.2.2 = 1) && (bif dir == 0 then decide (1 ≤ cv.2.2.1) else decide (cv.2.2.1 ≤ -1))))
def ai_back (a : ai_An) (nG : Nat) (iv : ai_S) (o : ai_O) : Bool := match ai_hd a.2 nG iv o.2.1 o.2.2 with
  | some (cv :: _) => ai_prog a.1 nG cv
  | _ => false
def ai_lp (f : ai_Fn) (an : Nat → Option ai_An) (stops : List Nat) (code : List ai_E) (G : ai_G) (x : ai_S) : Option (List ai_O) := match code with
  | [] => none
  | en :: r => match an en.1 with
    | none => f stops (en :: r) G x
    | some a => (ai_inv G.length x a.2).bind fun iv => (ai_hd a.2 G.length iv G x).bind fun _ => (f (en.1 :: stops) (en :: r) (G ++ a.2.2.1) iv).bind fun outs => ai_gd ((outs.filter (fun o => o.1 == en.1)).all (ai_back a G.length iv)) (some (outs.filter (fun o => !(o.1 == en.1))))
/-- to a place: it is a stop, or the ways from it on meet again, or one goes on -/
def ai_to (f : ai_Fn) (B : Nat → List ai_E) (an : Nat → Option ai_An) (rg : Nat → Option ai_An) (stops : List Nat) (code : List ai_E) (G : ai_G) (x : ai_S) : Option (List ai_O) := match code with
  | [] => none
  | en :: r => bif stops.contains en.1 then some [(en.1, G, x)] else match rg en.1 with
    | none => ai_lp f an stops (en :: r) G x
    | some a => (ai_inv G.length x a.2).bind fun j => (ai_lp f an (a.1 :: stops) (en :: r) G x).bind fun outs => ai_gd ((outs.filter (fun o => o.1 == a.1)).all (fun o => (ai_hd a.2 G.length j o.2.1 o.2.2).isSome)) (ai_join (some (outs.filter (fun o => !(o.1 == a.1)))) (bif stops.contains a.1 then some [(a.1, G ++ a.2.2.1, j)] else ai_lp f an stops (B a.1) (G ++ a.2.2.1) j))
/-- a comparison: the way that is known, or both -/
def ai_br (f : List ai_E → ai_G → ai_S → Option (List ai_O)) (op : Nat) (a b : ai_V) (tgt fall : List ai_E) (G : ai_G) (x : ai_S) : Option (List ai_O) := match ai_dc G op a b with
  | some true => f tgt G x
  | some false => f fall G x
  | none => ai_join (f tgt (ai_ref2 G op a b) x) (f fall (ai_ref2 G (ai_ng op) a b) x)
/-- the ways of a switch from lo on -/
def ai_swt (f : ai_G → Int → Option (List ai_O)) (G : ai_G) (a : ai_V) : Int → List Int → Option (List ai_O)
  | _, [] => some []
  | j, off :: r => bif decide ((ai_b G a).1 ≤ j) && decide (j ≤ (ai_b G a).2) then ai_join (f (ai_ref2 G 0 a (ai_lI j)) off) (ai_swt f G a (j + 1) r) else ai_swt f G a (j + 1) r
def ai_arg : Nat → List ai_V → ai_L
  | _, [] => []
  | i, v :: vs => (i, v) :: ai_arg (if ai_cat v = 2 then i + 2 else i + 1) vs
abbrev ai_H : Type := Nat → ai_G → List ai_V → ai_W → Option (List ai_O)
def ai_retB (md : ai_MD) (ins : Instr) (G : ai_G) (st : List ai_V) : Bool := match ins with
  | .ireturn => match st with
    | [v] => match md.2.2.2.2.1 with
      | some .int => ai_isI v
      | some .boolean => ai_fit G .boolean v
      | _ => false
    | _ => false
  | .lreturn => match st with
    | [v] => match md.2.2.2.2.1 with
      | some .long => ai_isL v
      | _ => false
    | _ => false
  | .return_ => match st with
    | [] => match md.2.2.2.2.1 with
      | none => true
      | _ => false
    | _ => false
  | _ => false
/-- may M call K with this stack? -/
def ai_may (mM mK : ai_MD) (tot : Nat) (st : List ai_V) (cs ss : Nat) : Bool :=
  decide (tot ≤ st.length) && (decide (((st.drop tot).map ai_cat).sum ≤ 8) && (decide (mK.2.2.2.2.2.2.1.frames + 1 ≤ mM.2.2.2.2.2.2.1.frames) && (decide (8 + (mK.2.2.2.1 + 11) + mK.2.2.2.2.2.2.1.locals ≤ mM.2.2.2.2.2.2.1.locals) && (decide (cs + mK.2.2.2.2.2.2.1.cells ≤ mM.2.2.2.2.2.2.1.cells) && (decide (ss + mK.2.2.2.2.2.2.1.slots ≤ mM.2.2.2.2.2.2.1.slots) && decide (((st.take tot).map ai_cat).sum ≤ mK.2.2.2.1))))))
/-- the receiver is a cell of that class -/
def ai_rcv (aw : ai_W) (a : ai_V) (ci : Nat) : Bool := ai_isR a && (match aw[a.2.1]? with
  | some (.inl (k, _)) => k == ci
  | _ => false)
/-- what a call gives back becomes a token, where it isn't known whole -/
def ai_got (o : ai_O) : ai_O := match o.2.2.2.1 with
  | v :: r => match ai_mat o.2.1 v with
    | some q => (o.1, q.1, o.2.2.1, q.2 :: r, o.2.2.2.2)
    | none => o
  | [] => o
/-- all ends of a method said in one -/
def ai_meet (jn : Option ai_Iv) (G : ai_G) (as : List ai_V) (aw : ai_W) (outs : List ai_O) : Option (List ai_O) := match jn with
  | none => some outs
  | some a => (ai_inv G.length (ai_arg 0 as, [], aw, 0, 0) a).bind fun j => ai_gd (outs.all (fun o => (ai_hd a G.length ([], j.2.1, j.2.2.1, o.2.2.2.2.2) o.2.1 o.2.2).isSome)) (some [(0, G ++ a.2.1, j)])
def ai_call (T : Nat → ai_MD) (hk : ai_H) (jn : Nat → Option ai_Iv) (run : Nat → ai_G → List ai_V → ai_W → Option (List ai_O)) (go : ai_G → ai_S → Option (List ai_O)) (M K : Nat) (G : ai_G) (x : ai_S) (tot : Nat) : Option (List ai_O) :=
  ai_gd (ai_may (T M) (T K) tot x.2.1 x.2.2.2.1 x.2.2.2.2) ((match hk K G (x.2.1.take tot).reverse x.2.2.1 with
    | some o => some o
    | none => (run K G (x.2.1.take tot).reverse x.2.2.1).bind fun outs => ai_meet (jn K) G (x.2.1.take tot).reverse x.2.2.1 outs).bind fun outs => ai_all (fun (o : ai_O) => go (ai_got o).2.1 (x.1, (ai_got o).2.2.2.1 ++ x.2.1.drop tot, o.2.2.2.2.1, x.2.2.2.1 + (T K).2.2.2.2.2.2.1.cells, x.2.2.2.2 + (T K).2.2.2.2.2.2.1.slots)) outs)
def ai_ctl (T : Nat → ai_MD) (B : Nat → Nat → List ai_E) (hk : ai_H) (jn : Nat → Option ai_Iv) (run : Nat → ai_G → List ai_V → ai_W → Option (List ai_O)) (f : List ai_E → ai_G → ai_S → Option (List ai_O)) (M : Nat) (en : ai_E) (rest : List ai_E) (G : ai_G) (x : ai_S) : Option (List ai_O) := match en.2.1 with
  | .goto off => f (B M ((en.1 : Int) + off).toNat) G x
  | .ifCond q off => ai_p1 x.2.1 fun a r => ai_gd (ai_isI a) (ai_br f (ai_op q) a (ai_lI 0) (B M ((en.1 : Int) + off).toNat) rest G (x.1, r, x.2.2))
  | .if_icmp q off => ai_p2 x.2.1 fun b a r => ai_gd (ai_isI a && ai_isI b) (ai_br f (ai_op q) a b (B M ((en.1 : Int) + off).toNat) rest G (x.1, r, x.2.2))
  | .lcmp => match rest with
    | en2 :: rest2 => match en2.2.1 with
      | .ifCond q off => ai_p2 x.2.1 fun b a r => ai_gd (ai_isL a && ai_isL b) (ai_br f (ai_op q) a b (B M ((en2.1 : Int) + off).toNat) rest2 G (x.1, r, x.2.2))
      | _ => none
    | [] => none
  | .ifnonnull off => ai_p1 x.2.1 fun a r => bif a.1 == 5 then f rest G (x.1, r, x.2.2) else ai_gd (ai_isR a) (f (B M ((en.1 : Int) + off).toNat) G (x.1, r, x.2.2))
  | .tableswitch dflt lo hi offs => ai_p1 x.2.1 fun a r => ai_gd (ai_isI a && decide (offs.toList.length = (hi - lo + 1).toNat)) (ai_join (bif decide ((ai_b G a).1 < lo) then f (B M ((en.1 : Int) + dflt).toNat) (ai_ref2 G 2 a (ai_lI lo)) (x.1, r, x.2.2) else some []) (ai_join (bif decide (hi < (ai_b G a).2) then f (B M ((en.1 : Int) + dflt).toNat) (ai_ref2 G 4 a (ai_lI hi)) (x.1, r, x.2.2) else some []) (ai_swt (fun G' off => f (B M ((en.1 : Int) + off).toNat) G' (x.1, r, x.2.2)) G a lo offs.toList)))
  | .ireturn => ai_gd (ai_retB (T M) en.2.1 G x.2.1 && (decide (x.2.2.2.1 ≤ (T M).2.2.2.2.2.2.1.cells) && decide (x.2.2.2.2 ≤ (T M).2.2.2.2.2.2.1.slots))) (some [(en.1, G, x)])
  | .lreturn => ai_gd (ai_retB (T M) en.2.1 G x.2.1 && (decide (x.2.2.2.1 ≤ (T M).2.2.2.2.2.2.1.cells) && decide (x.2.2.2.2 ≤ (T M).2.2.2.2.2.2.1.slots))) (some [(en.1, G, x)])
  | .return_ => ai_gd (ai_retB (T M) en.2.1 G x.2.1 && (decide (x.2.2.2.1 ≤ (T M).2.2.2.2.2.2.1.cells) && decide (x.2.2.2.2 ≤ (T M).2.2.2.2.2.2.1.slots))) (some [(en.1, G, x)])
  | .invokestatic _ => ai_gd ((T en.2.2.2.1).2.2.2.2.2.2.2 == 1) (ai_call T hk jn run (f rest) M en.2.2.2.1 G x (T en.2.2.2.1).2.2.2.2.2.1)
  | .invokespecial _ => ai_gd (!(en.2.2.2.1 == 999) && ((T en.2.2.2.1).2.2.2.2.2.2.2 == 2 && (match x.2.1.drop (T en.2.2.2.1).2.2.2.2.2.1 with
    | a :: _ => ai_rcv x.2.2.1 a en.2.2.2.2.1
    | [] => false))) (ai_call T hk jn run (f rest) M en.2.2.2.1 G x ((T en.2.2.2.1).2.2.2.2.2.1 + 1))
  | .invokevirtual _ => ai_gd ((T en.2.2.2.1).2.2.2.2.2.2.2 == 0 && (match x.2.1.drop (T en.2.2.2.1).2.2.2.2.2.1 with
    | a :: _ => ai_rcv x.2.2.1 a en.2.2.2.2.1
    | [] => false)) (ai_call T hk jn run (f rest) M en.2.2.2.1 G x ((T en.2.2.2.1).2.2.2.2.2.1 + 1))
  | _ => none
/-- what is said of loops, of ways that meet, of methods' ends -/
abbrev ai_Ns : Type := (Nat → Nat → Option ai_An) × (Nat → Nat → Option ai_An) × (Nat → Option ai_Iv)
def ai_ex (T : Nat → ai_MD) (B : Nat → Nat → List ai_E) (hk : ai_H) (N : ai_Ns) (L : Nat) : Nat → Nat → List Nat → List ai_E → ai_G → ai_S → Option (List ai_O)
  | 0, _, _, _, _, _ => none
  | n + 1, M, stops, code, G, x => match code with
    | [] => none
    | en :: rest => match ai_simp (T M) L en G x.1 x.2.1 x.2.2.1 x.2.2.2.1 x.2.2.2.2 with
      | some y => ai_to (ai_ex T B hk N L n M) (B M) (N.1 M) (N.2.1 M) stops rest G y
      | none => match ai_rdm en G x.1 x.2.1 x.2.2.1 x.2.2.2.1 x.2.2.2.2 with
        | some y => ai_to (ai_ex T B hk N L n M) (B M) (N.1 M) (N.2.1 M) stops rest y.1 y.2
        | none => ai_ctl T B hk N.2.2 (fun K G as aw => ai_ex T B hk N L n K [] (B K 0) G (ai_arg 0 as, [], aw, 0, 0)) (ai_to (ai_ex T B hk N L n M) (B M) (N.1 M) (N.2.1 M) stops) M en rest G x
end
section
/-! ===== loops and ways that meet are as the machine goes ===== -/
def ai_rt (md : ai_MD) (o : ai_O) : Prop := (∃ ins, decode md.2.2.1 o.1 = .ok (ins, 1) ∧ ai_retB md ins o.2.1 o.2.2.2.1 = true) ∧ o.2.2.2.2.2.1 ≤ md.2.2.2.2.2.2.1.cells ∧ o.2.2.2.2.2.2 ≤ md.2.2.2.2.2.2.1.slots
section ASL
variable {p : Program} {l : Launch} {e : Env} {R : Room} {s : State} {m : MethodId} {args : Array Value} {below : List Frame} {meth : Method} {c : Code} {Q : State → Prop} {ρ ρb σ : ai_Rh} {sb : Nat} {D : va_G} {A : Nat → Prop} {nL : Nat} {ad : List Nat} {P : List ai_E → Prop} {md : ai_MD}
variable {f : ai_Fn} {an rg : Nat → Option ai_An} {B : Nat → List ai_E} {stops : List Nat} {code : List ai_E} {G : ai_G} {x : ai_S} {outs : List ai_O}
def ai_ms (dir : Nat) (qs : List (Int × Int × Nat)) (zs : List Int) : Nat := match qs, zs with
  | q :: _, z :: _ => bif dir == 0 then (q.2.1 - z).toNat else (z - q.1).toNat
  | _, _ => 0
theorem ai_lp_ok (hf : ∀ (stops : List Nat) (code : List ai_E) (G : ai_G) (x : ai_S) (outs : List ai_O), f stops code G x = some outs → P code → ∀ ρ, ai_le ρb ρ → ai_gok ρ G → (∀ o ∈ outs, (o.1 ∈ stops ∨ ai_rt md o) → ∀ σ, ai_le ρ σ → ai_gok σ o.2.1 → ai_K p l e R s m args below meth c Q σ sb D A nL ad o.1 o.2.2) → ∃ en rest, code = en :: rest ∧ ai_K p l e R s m args below meth c Q ρ sb D A nL ad en.1 x) (h : ai_lp f an stops code G x = some outs) (hP : P code) (hb : ai_le ρb ρ) (hG : ai_gok ρ G) (HO : ∀ o ∈ outs, (o.1 ∈ stops ∨ ai_rt md o) → ∀ σ, ai_le ρ σ → ai_gok σ o.2.1 → ai_K p l e R s m args below meth c Q σ sb D A nL ad o.1 o.2.2) : ∃ en rest, code = en :: rest ∧ ai_K p l e R s m args below meth c Q ρ sb D A nL ad en.1 x := by
  unfold ai_lp at h
  cases code with
  | nil => cases h
  | cons en r =>
    dsimp only at h
    cases ha : an en.1 with
    | none =>
      rw [ha] at h
      exact hf stops (en :: r) G x outs h hP ρ hb hG HO
    | some a =>
      rw [ha] at h
      dsimp only at h
      obtain ⟨iv, hiv, h1⟩ := ai_bd_ok h
      obtain ⟨cv0, hcv0, h2⟩ := ai_bd_ok h1
      obtain ⟨outs1, hrun, h3⟩ := ai_bd_ok h2
      obtain ⟨hall, h4⟩ := ai_gd_ok h3
      cases h4
      rw [List.all_eq_true] at hall
      refine ⟨en, r, rfl, ?_⟩
      have claim : ∀ (k : Nat) (zs : List Int), ai_F2 (fun (q : Int × Int × Nat) (z : Int) => q.1 ≤ z ∧ z ≤ q.2.1 ∧ ai_kp q.2.2 z) a.2.2.1 zs → ai_ms a.1 a.2.2.1 zs < k → ai_K p l e R s m args below meth c Q (ai_mores ρ G.length zs) sb D A nL ad en.1 iv := by
        intro k
        induction k with
        | zero => intro zs _ h; omega
        | succ k ih =>
          intro zs hz hk
          obtain ⟨g1, g2, g3⟩ := ai_mores_le hG hz
          obtain ⟨en2, r2, e2, k2⟩ := hf (en.1 :: stops) (en :: r) (G ++ a.2.2.1) iv outs1 hrun hP _ (hb.tr g2) g1 (by
            intro o ho hor σ hσ hgσ
            by_cases eo : o.1 = en.1
            · have hback := hall o (List.mem_filter.mpr ⟨ho, by simpa using eo⟩)
              unfold ai_back at hback
              split at hback
              · rename_i cv cr hhd
                rw [eo]
                refine ai_hd_ok hG (g2.tr hσ) hgσ hhd (fun zs' hz' hrel => ih zs' hz' ?_)
                obtain ⟨z', zr', τ, rfl, hτ, hn⟩ := hrel cv cr rfl
                unfold ai_prog at hback
                simp only [Bool.and_eq_true, Bool.or_eq_true, beq_iff_eq, decide_eq_true_eq] at hback
                obtain ⟨p1, p2, p3, p4⟩ := hback
                obtain ⟨z1, e1, e2⟩ := hn p1
                cases hq : a.2.2.1 with
                | nil => rw [hq] at hz'; exact hz'.elim
                | cons q qs =>
                  rw [hq] at hz hz' hk
                  obtain ⟨z, zr, rfl, b1, -⟩ := hz.cons
                  have b2 := hz'.1
                  have e3 := hτ _ _ (hσ _ _ (g3 0 z rfl))
                  rw [Nat.add_zero, ← p2, e1] at e3
                  cases e3
                  rw [p3, Int.one_mul] at e2
                  unfold ai_ms at hk ⊢
                  dsimp only at hk ⊢
                  cases hd : (a.1 == 0) with
                  | true =>
                    rw [hd] at p4 hk
                    simp only [cond_true, decide_eq_true_eq] at p4 hk ⊢
                    omega
                  | false =>
                    rw [hd] at p4 hk
                    simp only [cond_false, decide_eq_true_eq] at p4 hk ⊢
                    omega
              · cases hback
            · refine HO o (List.mem_filter.mpr ⟨ho, by simpa using eo⟩) ?_ σ (g2.tr hσ) hgσ
              rcases hor with h | h
              · rcases List.mem_cons.mp h with h | h
                · exact absurd h eo
                · exact Or.inl h
              · exact Or.inr h)
          cases e2
          exact k2
      exact ai_hd_ok hG ai_le.rf hG hcv0 (fun zs hz _ => claim _ zs hz (Nat.lt_succ_self _))
theorem ai_to_ok (hf : ∀ (stops : List Nat) (code : List ai_E) (G : ai_G) (x : ai_S) (outs : List ai_O), f stops code G x = some outs → P code → ∀ ρ, ai_le ρb ρ → ai_gok ρ G → (∀ o ∈ outs, (o.1 ∈ stops ∨ ai_rt md o) → ∀ σ, ai_le ρ σ → ai_gok σ o.2.1 → ai_K p l e R s m args below meth c Q σ sb D A nL ad o.1 o.2.2) → ∃ en rest, code = en :: rest ∧ ai_K p l e R s m args below meth c Q ρ sb D A nL ad en.1 x) (hB : ∀ q, P (B q) ∧ ∀ en r, B q = en :: r → en.1 = q) (h : ai_to f B an rg stops code G x = some outs) (hP : P code) (hb : ai_le ρb ρ) (hG : ai_gok ρ G) (HO : ∀ o ∈ outs, (o.1 ∈ stops ∨ ai_rt md o) → ∀ σ, ai_le ρ σ → ai_gok σ o.2.1 → ai_K p l e R s m args below meth c Q σ sb D A nL ad o.1 o.2.2) : ∃ en rest, code = en :: rest ∧ ai_K p l e R s m args below meth c Q ρ sb D A nL ad en.1 x := by
  unfold ai_to at h
  cases code with
  | nil => cases h
  | cons en r =>
    dsimp only at h
    cases hs : stops.contains en.1 with
    | true =>
      rw [hs] at h
      cases h
      exact ⟨en, r, rfl, HO _ List.mem_cons_self (Or.inl (by simpa using hs)) ρ ai_le.rf hG⟩
    | false =>
      rw [hs, cond_false] at h
      cases ha : rg en.1 with
      | none =>
        rw [ha] at h
        exact ai_lp_ok hf h hP hb hG HO
      | some a =>
        rw [ha] at h
        dsimp only at h
        obtain ⟨j, hj, h1⟩ := ai_bd_ok h
        obtain ⟨outs1, hrun, h2⟩ := ai_bd_ok h1
        obtain ⟨hall, h3⟩ := ai_gd_ok h2
        obtain ⟨o1, o2, e1, h4, rfl⟩ := ai_join_ok h3
        cases e1
        rw [List.all_eq_true] at hall
        refine ai_lp_ok hf hrun hP hb hG (fun o ho hor σ hσ hgσ => ?_)
        by_cases eo : o.1 = a.1
        · have hh := hall o (List.mem_filter.mpr ⟨ho, by simpa using eo⟩)
          obtain ⟨cvs, hhd⟩ := Option.isSome_iff_exists.mp hh
          rw [eo]
          refine ai_hd_ok hG hσ hgσ hhd (fun zs hz _ => ?_)
          obtain ⟨g1, g2, g3⟩ := ai_mores_le hG hz
          cases hsa : stops.contains a.1 with
          | true =>
            rw [hsa] at h4
            cases h4
            exact HO (a.1, G ++ a.2.2.1, j) (List.mem_append_right _ List.mem_cons_self) (Or.inl (by simpa using hsa)) _ g2 g1
          | false =>
            rw [hsa, cond_false] at h4
            obtain ⟨en2, r2, q2, k2⟩ := ai_lp_ok hf h4 (hB a.1).1 (hb.tr g2) g1 (fun o ho hor σ hσ hgσ => HO o (List.mem_append_right _ ho) hor σ (g2.tr hσ) hgσ)
            rw [(hB a.1).2 en2 r2 q2] at k2
            exact k2
        · refine HO o (List.mem_append_left _ (List.mem_filter.mpr ⟨ho, by simpa using eo⟩)) ?_ σ hσ hgσ
          rcases hor with h | h
          · rcases List.mem_cons.mp h with h | h
            · exact absurd h eo
            · exact Or.inl h
          · exact Or.inr h
end ASL
end
section
/-! ===== the walk is as the machine goes ===== -/
def ai_nest : List (String × Nat × MethodName) := [("FirstPolls", 11, ⟨"FirstPolls$Land", "<init>", "()V"⟩), ("FirstPolls$View", 106, ⟨"FirstPolls", "unset", "([Z)V"⟩), ("FirstPolls$Reader", 104, ⟨"FirstPolls", "isLetter", "(I)Z"⟩), ("FirstPolls$Reader", 108, ⟨"FirstPolls", "isDigit", "(I)Z"⟩), ("FirstPolls$Tally", 122, ⟨"FirstPolls", "unset", "([Z)V"⟩)]
def ai_nw (s : State) : Prop := ∀ q ∈ ai_nest, va_Nw (.methodLinkNest q.1 q.2.1 q.2.2 "FirstPolls") s
def ai_link (md mK : ai_MD) (i ni : Nat) : Prop := (ni = 0 ∧ Jvm.Cond.methodLink md.1 i mK.2.1 ∈ ai_tb) ∨ (ni = 1 ∧ (md.1, i, mK.2.1) ∈ ai_nest)
def ai_jok (en : ai_E) : Prop := match en.2.1 with
  | .goto off => 0 ≤ (en.1 : Int) + off
  | .ifCond _ off => 0 ≤ (en.1 : Int) + off
  | .if_icmp _ off => 0 ≤ (en.1 : Int) + off
  | .ifnonnull off => 0 ≤ (en.1 : Int) + off
  | .tableswitch dflt _ _ offs => 0 ≤ (en.1 : Int) + dflt ∧ ∀ off ∈ offs.toList, 0 ≤ (en.1 : Int) + off
  | _ => True
def ai_eok2 (T : Nat → ai_MD) (md : ai_MD) (en : ai_E) : Prop := ai_eok md en ∧ ai_jok en ∧ match en.2.1 with
  | .invokestatic i => ai_link md (T en.2.2.2.1) i en.2.2.2.2.2.1
  | .invokespecial i => ¬ en.2.2.2.1 = 999 → ai_link md (T en.2.2.2.1) i en.2.2.2.2.2.1
  | .invokevirtual i => Jvm.Cond.methodLink md.1 i (T en.2.2.2.1).2.1 ∈ ai_tb ∧ ∃ q, vwCl[en.2.2.2.2.1]? = some q ∧ q.1 = (T en.2.2.2.1).2.1.cls
  | _ => True
def ai_mok (md : ai_MD) : Prop := md.1 = md.2.1.cls ∧ plainName md.2.1.cls = true ∧ Jvm.Cond.code md.2.1 md.2.2.1 md.2.2.2.1 md.2.2.2.2.1 ∈ ai_tb ∧ (md.2.1.cls ≠ "java/lang/invoke/MethodHandle" ∧ md.2.1.cls ≠ "java/lang/invoke/VarHandle" ∧ (parseMethodDescriptor md.2.1.desc).map (fun d => d.parameters.length) = some md.2.2.2.2.2.1) ∧ Jvm.Cond.initialized md.2.1.cls ∈ ai_tb ∧ (md.2.2.2.2.2.2.2 = 0 → Jvm.Cond.instanceMethod md.2.1 ∈ ai_tb ∧ Jvm.Cond.selects md.2.1.cls md.2.1 md.2.1 ∈ ai_tb) ∧ (md.2.2.2.2.2.2.2 = 1 → Jvm.Cond.static md.2.1 ∈ ai_tb) ∧ (md.2.2.2.2.2.2.2 = 2 → md.2.1.name = "<init>" ∧ Jvm.Cond.instanceMethod md.2.1 ∈ ai_tb ∧ md.2.2.2.2.1 = none)
def ai_codeok (T : Nat → ai_MD) (md : ai_MD) : List ai_E → Prop
  | [] => True
  | en :: rest => ai_eok2 T md en ∧ (∀ en2 r, rest = en2 :: r → en2.1 = en.1 + en.2.2.1) ∧ ai_codeok T md rest
def ai_cx2 (p : Program) (s : State) (m : MethodId) (args : Array Value) (meth : Method) (c : Code) (R : Room) (md : ai_MD) (A : Nat → Prop) (sb L : Nat) (xs : Nat → Int32) : Prop := ai_cx p s m args meth c R md A sb L xs ∧ ai_nw s
/-- a call: what stands at its start, and at its end -/
def ai_Pc (D : va_G) (ws : va_W) (tys : List (ClassId × FieldType)) (vs : List Value) (sz : Nat) : Array Value → State → Prop := fun v U => v = vs.toArray ∧ U.heap.size = sz ∧ va_P D vwCl ws U.heap ∧ va_K D vwCl tys U ∧ va_D (fun _ => True) ws ∧ va_AO "FirstPolls$Land" U ∧ ai_nw U
def ai_Qc (ρ : ai_Rh) (sb : Nat) (D : va_G) (ws : va_W) (outs : List ai_O) (A : Nat → Prop) : Array Value → State → Outcome → State → Prop := fun _ st oc t => (∃ o ∈ outs, ∃ σ, ai_le ρ σ ∧ ai_gok σ o.2.1 ∧ ∃ (rv : Option Value) (ws1 : va_W) (tys1 : List (ClassId × FieldType)) (y : List Nat), oc = .returned rv ∧ ws1.map Prod.fst = ws.map Prod.fst ++ y ∧ ai_F2 (ai_mt σ sb (ws1.map Prod.fst)) o.2.2.2.1 rv.toList ∧ va_P D vwCl ws1 t.heap ∧ va_D A ws1 ∧ va_K D vwCl tys1 t ∧ ai_ws σ sb tys1 o.2.2.2.2.1 ws1) ∧ va_F A st t
def ai_cs (md : ai_MD) (L sb : Nat) (G : ai_G) (as : List ai_V) (aw : ai_W) (outs : List ai_O) : Prop := ∀ (ρ : ai_Rh) (l : Launch) (D : va_G) (ws : va_W) (tys : List (ClassId × FieldType)) (vs : List Value) (sz : Nat), (∀ σ, ai_le ρ σ → ai_rb L σ) → ai_gok ρ G → ai_F2 (ai_mt ρ sb (ws.map Prod.fst)) as vs → ai_ws ρ sb tys aw ws → Met l md.2.1 (Jvm.Cond.code md.2.1 md.2.2.1 md.2.2.2.1 md.2.2.2.2.1 :: ai_tb) md.2.2.2.2.2.2.1 (ai_Pc D ws tys vs sz) (ai_Qc ρ sb D ws outs (va_A ws sz)) md.2.2.2.2.2.2.1.cells md.2.2.2.2.2.2.1.slots (va_A ws sz)
theorem ai_tb_good {w : Jvm.Cond} (h : w ∈ ai_tb) : (w.onTables && w.keeps) = true ∨ ∃ ty, w = .arrayClass ty := good_of_word (List.mem_filter.mp h).2
theorem ai_good {md : ai_MD} (h : Jvm.Cond.code md.2.1 md.2.2.1 md.2.2.2.1 md.2.2.2.2.1 ∈ ai_tb) : GoodIn ai_tb (Jvm.Cond.code md.2.1 md.2.2.1 md.2.2.2.1 md.2.2.2.2.1 :: ai_tb) := by
  intro w hw
  rcases List.mem_cons.mp hw with rfl | hw
  · exact ⟨h, ai_tb_good h⟩
  · exact ⟨hw, ai_tb_good hw⟩
theorem ai_nw.warm {s U : State} (hW : s.WarmedH U.vm) (h : ai_nw s) : ai_nw U := fun q hq => va_Nw.warmM hW (h q hq)
theorem ai_nw.same {u U : State} (hv : u.vm = U.vm) (h : ai_nw u) : ai_nw U := fun q hq => va_Nw.same rfl hv (h q hq)
theorem ai_Pc_blind (D : va_G) (ws : va_W) (tys : List (ClassId × FieldType)) (vs : List Value) (sz : Nat) : FrameBlind (ai_Pc D ws tys vs sz) := by
  intro a U g mk h
  obtain ⟨h1, h2, h3, h4, h5, h6, h7⟩ := h
  exact ⟨h1, h2, h3, va_K.moved (u := U) (U := U.calling g mk a) (Vm.Alike.refl U.vm) h4, h5, va_AO.moved (u := U) (U := U.calling g mk a) (Vm.Alike.refl U.vm) h6, ai_nw.same (u := U) (U := U.calling g mk a) rfl h7⟩
section ASR
variable {p : Program} {l : Launch} {e : Env} {R : Room} {s : State} {m : MethodId} {args : Array Value} {below : List Frame} {meth : Method} {c : Code} {H : Heap} {locs : List Loc} {cs ss mc ms : Nat} {Q : State → Prop} {pc : Nat} {ls : Array Slot} {st0 rest : List Value} {free : Addr → Prop} {Qa : State → Outcome → State → Prop}
theorem ai_run (hr : va_Run p l e R s m args below meth c H locs cs ss mc ms (F0 m pc ls st0) rest Qa free) (kk : ∀ (v : Option Value) (st t : State) (H1 : Heap) (L : List Loc), st.heap = H → t.heap = H1 → s.vm.Alike t.vm → Qa st (.returned v) t → (∀ q ∈ L, free q.base) → W p l e R s m args below meth c H1 (locs ++ L) (cs + mc) (ss + ms) Q (F0 m (pc + 3) ls (v.toList ++ rest))) : W p l e R s m args below meth c H locs cs ss Q (F0 m pc ls st0) := by
  intro T hT X
  obtain ⟨v, st₀, t, T', L, h0, X', hL, e1, e2, hq, st⟩ := hr T hT X
  obtain ⟨t2, a1, b1⟩ := kk v st₀ t T'.heap L h0 e1.symm (by rw [← e2]; exact X'.warmed.alike) hq hL T' rfl X'
  exact ⟨t2, st t2 a1, b1⟩
end ASR
section ASC
variable {p : Program} {l : Launch} {e : Env} {R : Room} {s : State} {m : MethodId} {args : Array Value} {below : List Frame} {meth : Method} {c : Code} {cs ss : Nat} {Q : State → Prop} {ρ : ai_Rh} {sb L : Nat} {xs : Nat → Int32} {D : va_G} {A : Nat → Prop} {ad : List Nat} {pc nL : Nat} {x : ai_S}
theorem ai_K.at {ws : va_W} {y : List Nat} (h : ai_K p l e R s m args below meth c Q ρ sb D A nL ad pc x) (hy : ws.map Prod.fst = ad ++ y) : ai_K p l e R s m args below meth c Q ρ sb D A nL (ws.map Prod.fst) pc x := by
  intro ls stk H locs ws1 tys y1 h1 h2 h3 h4
  exact h ls stk H locs ws1 tys (y ++ y1) (by rw [h1, hy, List.append_assoc]) h2 h3 h4
/-- behind a call: all outcomes of the callee go on -/
theorem ai_call_ok {ws : va_W} {tys : List (ClassId × FieldType)} {H : Heap} {locs : List Loc} {ls : Array Slot} {st0 rest : List Value} {als : ai_L} {rA : List ai_V} {outs : List ai_O} {aw : ai_W} {a : Array Value} {mc ms : Nat} (hA : ∀ q, s.heap.size ≤ q → A q) (hm : ai_mem ρ sb D A s H locs aw ws tys) (hls : ai_lv ρ sb (ws.map Prod.fst) als nL ls) (hst : ai_F2 (ai_mt ρ sb (ws.map Prod.fst)) rA rest) (hr : va_Run p l e R s m args below meth c H locs cs ss mc ms (F0 m pc ls st0) rest (ai_Qc ρ sb D ws outs (va_A ws H.size) a) (va_A ws H.size)) (hK : ∀ o ∈ outs, ∀ σ, ai_le ρ σ → ai_gok σ o.2.1 → ai_K p l e R s m args below meth c Q σ sb D A nL (ws.map Prod.fst) (pc + 3) (als, o.2.2.2.1 ++ rA, o.2.2.2.2.1, cs + mc, ss + ms)) : W p l e R s m args below meth c H locs cs ss Q (F0 m pc ls st0) := by
  obtain ⟨hP, hD, hKk, hS, hW⟩ := hm
  have hAA : ∀ q, va_A ws H.size q → A q := by
    intro q hq
    rcases hq with ⟨k, e9, hk⟩ | hq
    · exact hD.2 k _ hk
    · exact hA q (Nat.le_trans hS.1 hq)
  refine ai_run hr (fun v st t H1 Lc h0 h1 hv hq hL => ?_)
  obtain ⟨⟨o, ho, σ, hσ, hg, rv, ws1, tys1, y, e1, e2, e3, e4, e5, e6, e7⟩, hz, hk⟩ := hq
  cases e1
  rw [h0] at hz hk
  rw [h1] at hz hk e4
  refine hK o ho σ hσ hg ls (v.toList ++ rest) H1 (locs ++ Lc) ws1 tys1 y e2 (by rw [e2]; exact hls.more hσ y) (ai_F2.app e3 (by rw [e2]; exact hst.mono (fun _ _ h => h.more hσ y))) ⟨e4, e5.weaken (fun _ _ _ h => hAA _ h), va_K.moved hv.symm e6, ⟨Nat.le_trans hS.1 hz, fun q g1 g2 => ?_, fun q g => ?_⟩, e7⟩
  · rw [hk q (Nat.lt_of_lt_of_le g1 hS.1) (fun z => g2 (hAA q z))]
    exact hS.2.1 q g1 g2
  · rcases List.mem_append.mp g with g | g
    · exact hS.2.2 q g
    · exact hAA _ (hL q g)
end ASC
section ASM
variable {ρ : ai_Rh} {sb L : Nat} {md : ai_MD} {jn : Option ai_Iv}
theorem ai_arg_ok {ad : List Nat} : ∀ {as : List ai_V} {vs : List Value} (i : Nat), ai_F2 (ai_mt ρ sb ad) as vs → ai_F2 (fun (a : Nat × ai_V) (q : Nat × Value) => a.1 = q.1 ∧ ai_mt ρ sb ad a.2 q.2) (ai_arg i as) (lv_args i vs)
  | [], vs, i, h => by rw [h.nil]; trivial
  | a :: as, vs, i, h => by
    obtain ⟨v, vs1, rfl, h1, h2⟩ := h.cons
    refine ⟨⟨rfl, h1⟩, ?_⟩
    rw [← h1.cat]
    exact ai_arg_ok _ h2
theorem ai_sl_len {ad : List Nat} : ∀ {as : List ai_V} {vs : List Value}, ai_F2 (ai_mt ρ sb ad) as vs → (lg_sl vs).length = (as.map ai_cat).sum
  | [], vs, h => by rw [h.nil]; rfl
  | a :: as, vs, h => by
    obtain ⟨v, vs1, rfl, h1, h2⟩ := h.cons
    have ih := ai_sl_len h2
    unfold lg_sl at ih ⊢
    rw [List.flatMap_cons, List.length_append, ih, List.map_cons, List.sum_cons, ← h1.cat]
    rcases lv_cat v with hc | hc <;> simp [hc]
theorem ai_hd_rel {s : State} {H : Heap} {locs : List Loc} {D : va_G} {A : Nat → Prop} {ws : va_W} {tys : List (ClassId × FieldType)} {ls : Array Slot} {stk : List Value} {nL : Nat} {σ : ai_Rh} {a : ai_Iv} {iv y : ai_S} {G0 G1 : ai_G} {cvs : List ai_V} (hG0 : ai_gok ρ G0) (hr : ai_le ρ σ) (hG1 : ai_gok σ G1) (h : ai_hd a G0.length iv G1 y = some cvs) (hls : ai_lv σ sb (ws.map Prod.fst) y.1 nL ls) (hst : ai_F2 (ai_mt σ sb (ws.map Prod.fst)) y.2.1 stk) (hm : ai_mem σ sb D A s H locs y.2.2.1 ws tys) : ∃ τ, ai_le ρ τ ∧ ai_gok τ (G0 ++ a.2.1) ∧ ai_F2 (ai_mt τ sb (ws.map Prod.fst)) iv.2.1 stk ∧ ai_ws τ sb tys iv.2.2.1 ws := by
  unfold ai_hd at h
  obtain ⟨⟨G2, x2, cv2⟩, h1, h2⟩ := ai_bd_ok h
  obtain ⟨h3, h4⟩ := ai_gd_ok h2
  cases h4
  rw [Bool.and_eq_true] at h3
  obtain ⟨c1, τ, t1, t2, t3, t4, t5, us, t6⟩ := ai_mps_ok hG1 hls hst hm h1
  have hb := ai_nchk_ok t2 t6 h3.1
  obtain ⟨g1, g2, g3⟩ := ai_mores_le hG0 hb
  have hag : ∀ t z, t < G0.length → τ t = some z → ai_mores ρ G0.length (us.map ai_vz) t = some z := fun t z ht hz => by
    obtain ⟨z0, e0, -⟩ := hG0.at (List.getElem?_eq_getElem ht)
    have e1 := t1 _ _ (hr _ _ e0)
    rw [hz] at e1
    cases e1
    exact g2 _ _ e0
  have hnw : ∀ (j : Nat) (u : Value), us[j]? = some u → ai_mores ρ G0.length (us.map ai_vz) (G0.length + j) = some (ai_vz u) := fun j u hj => g3 j (ai_vz u) (by rw [List.getElem?_map, hj]; rfl)
  have h5 := h3.2
  unfold ai_sbs at h5
  simp only [Bool.and_eq_true, decide_eq_true_eq] at h5
  exact ⟨_, g2, g1, ai_all2_ok (P := ai_mt τ sb (ws.map Prod.fst)) (S := ai_mt (ai_mores ρ G0.length (us.map ai_vz)) sb (ws.map Prod.fst)) (fun _ _ _ h g => ai_sb_ok t2 hag t6 hnw h g) h5.2.1 t4, ai_sbw_ok t2 hag t6 hnw h5.2.2.1 t5.2.2.2.2⟩
theorem ai_meet_ok {jn : Option ai_Iv} {G : ai_G} {as : List ai_V} {aw : ai_W} {outs outs2 : List ai_O} {o : ai_O} {s : State} {H : Heap} {locs : List Loc} {D : va_G} {A : Nat → Prop} {ws : va_W} {tys : List (ClassId × FieldType)} {ls : Array Slot} {stk : List Value} {nL : Nat} {σ : ai_Rh} (h : ai_meet jn G as aw outs = some outs2) (ho : o ∈ outs) (hG : ai_gok ρ G) (hr : ai_le ρ σ) (hg : ai_gok σ o.2.1) (hls : ai_lv σ sb (ws.map Prod.fst) o.2.2.1 nL ls) (hst : ai_F2 (ai_mt σ sb (ws.map Prod.fst)) o.2.2.2.1 stk) (hm : ai_mem σ sb D A s H locs o.2.2.2.2.1 ws tys) : ∃ o' ∈ outs2, ∃ τ, ai_le ρ τ ∧ ai_gok τ o'.2.1 ∧ ai_F2 (ai_mt τ sb (ws.map Prod.fst)) o'.2.2.2.1 stk ∧ ai_ws τ sb tys o'.2.2.2.2.1 ws := by
  unfold ai_meet at h
  split at h
  · cases h
    exact ⟨o, ho, σ, hr, hg, hst, hm.2.2.2.2⟩
  · rename_i a
    obtain ⟨j, hj, h1⟩ := ai_bd_ok h
    obtain ⟨hall, h2⟩ := ai_gd_ok h1
    cases h2
    rw [List.all_eq_true] at hall
    obtain ⟨cvs, hhd⟩ := Option.isSome_iff_exists.mp (hall o ho)
    obtain ⟨τ, q1, q2, q3, q4⟩ := ai_hd_rel hG hr hg hhd hls hst hm
    exact ⟨_, List.mem_cons_self, τ, q1, q2, q3, q4⟩
/-- a method's body gives its contract -/
theorem ai_met {G : ai_G} {as : List ai_V} {aw : ai_W} {outs outs2 : List ai_O} (hmo : ai_mok md) (hkd : ¬ md.2.2.2.2.2.2.2 = 3) (hmt : ai_meet jn G as aw outs = some outs2) (hsum : (as.map ai_cat).sum ≤ md.2.2.2.1)
    (body : ∀ (ρ : ai_Rh), ai_gok ρ G → (∀ σ, ai_le ρ σ → ai_rb L σ) → ∀ {p : Program} {l : Launch} {e : Env} {R : Room} {s : State} {m : MethodId} {args : Array Value} {below : List Frame} {meth : Method} {c : Code} {Q : State → Prop} {D : va_G} {A : Nat → Prop} {xs : Nat → Int32} {ad : List Nat}, ai_cx2 p s m args meth c R md A sb L xs → (∀ o ∈ outs, ai_rt md o → ∀ σ, ai_le ρ σ → ai_gok σ o.2.1 → ai_K p l e R s m args below meth c Q σ sb D A md.2.2.2.1 ad o.1 o.2.2) → ai_K p l e R s m args below meth c Q ρ sb D A md.2.2.2.1 ad 0 (ai_arg 0 as, [], aw, 0, 0)) : ai_cs md L sb G as aw outs2 := by
  intro ρ l D ws tys vs sz hrb hG has hws
  refine Met.ofW (cc := md.2.2.1) (maxL := md.2.2.2.1) (ret := md.2.2.2.2.1) hmo.2.1 rfl ?_
  intro p e s m args below meth c s₁ B hml hv
  obtain ⟨rfl, hsz, hP, hKk, hD0, hao, hnw⟩ := hv
  subst hsz
  have hD := hD0.self (sz := s.heap.size)
  have hts := atoms_spec (ws := Jvm.Cond.code md.2.1 md.2.2.1 md.2.2.2.1 md.2.2.2.2.1 :: ai_tb) B.pre
  have hin : md.2.1.name = "<init>" → meth.name = "<init>" := fun h => (name_of_methodNamed B.named B.method).1.trans h
  have hown : s.vm.findClass md.1 = some m.cls := by rw [hmo.1]; exact findClass_of_methodNamed B.named
  have hlocks := B.notSynchronized
  have cx : ai_cx2 p s m vs.toArray meth c (headSpec (Jvm.Cond.code md.2.1 md.2.2.1 md.2.2.2.1 md.2.2.2.2.1 :: ai_tb) md.2.2.2.2.2.2.1).room md (va_A ws s.heap.size) sb L (fun _ => 0) := ⟨⟨B.exec, B.bytes, hml, hown, fun w hw => hts w (List.mem_cons_of_mem _ hw), fun q h => Or.inr h, hin, rfl, hao, fun h => absurd h hkd⟩, hnw⟩
  have hl := lv_entry vs (n := md.2.2.2.1) (by rw [ai_sl_len has]; exact hsum)
  rw [lg_entry_eq]
  refine body ρ hG hrb (ad := ws.map Prod.fst) (D := D) cx ?_ _ [] s.heap [] ws tys [] (List.append_nil _).symm ⟨_, hl, ai_arg_ok 0 has⟩ trivial ⟨hP, hD, hKk, va_S.rf, hws⟩
  intro o ho hrt σ hσ hg ls stk H locs ws1 tys1 y hy hls hst hm
  obtain ⟨⟨ins, hd, hrB⟩, hc1, hc2⟩ := hrt
  obtain ⟨hP1, hD1, hK1, hS1, hW1⟩ := id hm
  refine W.widen hc1 hc2 ?_
  have hx := B.exec
  have hb := B.bytes
  have hr := B.returns
  have Qok : ∀ (rv : Option Value), ai_F2 (ai_mt σ sb (ws1.map Prod.fst)) o.2.2.2.1 rv.toList → ∀ t : State, t.heap = H → s.WarmedH t.vm → ai_Qc ρ sb D ws outs2 (va_A ws s.heap.size) vs.toArray s (.returned rv) t := by
    intro rv h1 t ht hWt
    obtain ⟨o', ho', τ, q1, q2, q3, q4⟩ := ai_meet_ok hmt ho hG hσ hg hls h1 ⟨hP1, hD1, hK1, hS1, hW1⟩
    exact ⟨⟨o', ho', τ, q1, q2, rv, ws1, tys1, y, rfl, hy, q3, by rw [ht]; exact hP1, hD1, va_K.moved hWt.alike hK1, q4⟩, hS1.F ht⟩
  unfold ai_retB at hrB
  split at hrB
  · split at hrB
    · rename_i v hv
      rw [hv] at hst
      obtain ⟨u, stk1, rfl, mv, hst1⟩ := hst.cons
      rw [hst1.nil]
      split at hrB
      · rename_i hrt
        obtain ⟨z, rfl, -⟩ := ai_int hg mv hrB
        exact W.iret hx hb (hr.trans hrt) (Qok (some (.int z)) (by rw [hv]; exact ⟨mv, trivial⟩)) hS1.2.2 hd
      · rename_i hrt
        have hf := ai_fit_ok hg mv hrB
        unfold ai_fit at hrB
        simp only [Bool.and_eq_true] at hrB
        obtain ⟨z, rfl, -⟩ := ai_int hg mv hrB.1
        exact W.zret hx hb (hr.trans hrt) hf.1 (Qok (some (.int z)) (by rw [hv]; exact ⟨mv, trivial⟩)) hS1.2.2 hd
      · cases hrB
    · cases hrB
  · split at hrB
    · rename_i v hv
      rw [hv] at hst
      obtain ⟨u, stk1, rfl, mv, hst1⟩ := hst.cons
      rw [hst1.nil]
      split at hrB
      · rename_i hrt
        obtain ⟨z, rfl, -⟩ := ai_lng hg mv hrB
        exact W.lret hx hb (hr.trans hrt) (Qok (some (.long z)) (by rw [hv]; exact ⟨mv, trivial⟩)) hS1.2.2 hd
      · cases hrB
    · cases hrB
  · split at hrB
    · rename_i hv
      rw [hv] at hst
      rw [hst.nil]
      split at hrB
      · rename_i hrt
        exact W.vret hx hb (hr.trans hrt) (Qok none (by rw [hv]; trivial)) hS1.2.2 hd
      · cases hrB
    · cases hrB
  · cases hrB
end ASM
end
section
section ASW
variable {p : Program} {l : Launch} {e : Env} {R : Room} {s : State} {m : MethodId} {args : Array Value} {below : List Frame} {meth : Method} {c : Code} {H : Heap} {locs : List Loc} {cs ss : Nat} {Q : State → Prop} {pc : Nat} {ls : Array Slot} {stk : List Value} {cc : ByteArray}
theorem ai_z32 : (0 : Int32).toInt = 0 := rfl
theorem ai_if {q : Jvm.ClassFile.Cond} {off : Int} {tgt : Nat} {y : Int32} (hx : p.tables.exec = Jvm.exec) (hb : c.code = cc) (hd : decode cc pc = .ok (.ifCond q off, 3)) (ht : (pc : Int) + off = (tgt : Int)) (kt : ai_cP (ai_op q) y.toInt 0 → W p l e R s m args below meth c H locs cs ss Q (F0 m tgt ls stk)) (kf : ¬ ai_cP (ai_op q) y.toInt 0 → W p l e R s m args below meth c H locs cs ss Q (F0 m (pc + 3) ls stk)) : W p l e R s m args below meth c H locs cs ss Q (F0 m pc ls (.int y :: stk)) := by
  have ez := ai_z32
  cases q with
  | eq => exact lv_if_eq hx hb hd ht (fun h => kt (by subst h; rfl)) (fun h => kf (fun g => h (Int32.toInt_inj.mp g)))
  | ne => exact lv_if_ne hx hb hd ht (fun h => kt (fun g => h (Int32.toInt_inj.mp g))) (fun h => kf (fun g => g (by subst h; rfl)))
  | lt => exact lv_if_lt hx hb hd ht (fun h => kt (Int32.lt_iff_toInt_lt.mp h)) (fun h => kf (fun g => h (Int32.lt_iff_toInt_lt.mpr g)))
  | ge => exact lv_if_ge hx hb hd ht (fun h => kt (by have := Int32.le_iff_toInt_le.mp h; simp only [ai_op, ai_cP]; omega)) (fun h => kf (fun g => h (Int32.le_iff_toInt_le.mpr (by simp only [ai_op, ai_cP] at g; omega))))
  | gt => exact lv_if_gt hx hb hd ht (fun h => kt (Int32.lt_iff_toInt_lt.mp h)) (fun h => kf (fun g => h (Int32.lt_iff_toInt_lt.mpr g)))
  | le => exact lv_if_le hx hb hd ht (fun h => kt (by have := Int32.le_iff_toInt_le.mp h; simp only [ai_op, ai_cP]; omega)) (fun h => kf (fun g => h (Int32.le_iff_toInt_le.mpr (by simp only [ai_op, ai_cP] at g; omega))))
theorem ai_icmp {q : Jvm.ClassFile.Cond} {off : Int} {tgt : Nat} {y z : Int32} (hx : p.tables.exec = Jvm.exec) (hb : c.code = cc) (hd : decode cc pc = .ok (.if_icmp q off, 3)) (ht : (pc : Int) + off = (tgt : Int)) (kt : ai_cP (ai_op q) z.toInt y.toInt → W p l e R s m args below meth c H locs cs ss Q (F0 m tgt ls stk)) (kf : ¬ ai_cP (ai_op q) z.toInt y.toInt → W p l e R s m args below meth c H locs cs ss Q (F0 m (pc + 3) ls stk)) : W p l e R s m args below meth c H locs cs ss Q (F0 m pc ls (.int y :: .int z :: stk)) := by
  cases q with
  | eq => exact lv_icmp_eq hx hb hd ht (fun h => kt (by subst h; rfl)) (fun h => kf (fun g => h (Int32.toInt_inj.mp g)))
  | ne => exact lv_icmp_ne hx hb hd ht (fun h => kt (fun g => h (Int32.toInt_inj.mp g))) (fun h => kf (fun g => g (by subst h; rfl)))
  | lt => exact lv_icmp_lt hx hb hd ht (fun h => kt (Int32.lt_iff_toInt_lt.mp h)) (fun h => kf (fun g => h (Int32.lt_iff_toInt_lt.mpr g)))
  | ge => exact lv_icmp_ge hx hb hd ht (fun h => kt (by have := Int32.le_iff_toInt_le.mp h; simp only [ai_op, ai_cP]; omega)) (fun h => kf (fun g => h (Int32.le_iff_toInt_le.mpr (by simp only [ai_op, ai_cP] at g; omega))))
  | gt => exact lv_icmp_gt hx hb hd ht (fun h => kt (Int32.lt_iff_toInt_lt.mp h)) (fun h => kf (fun g => h (Int32.lt_iff_toInt_lt.mpr g)))
  | le => exact lv_icmp_le hx hb hd ht (fun h => kt (by have := Int32.le_iff_toInt_le.mp h; simp only [ai_op, ai_cP]; omega)) (fun h => kf (fun g => h (Int32.le_iff_toInt_le.mpr (by simp only [ai_op, ai_cP] at g; omega))))
theorem ai_lgc {q : Jvm.ClassFile.Cond} {y z : Int64} : ai_cP (ai_op q) (lg_cmp z y).toInt 0 ↔ ai_cP (ai_op q) z.toInt y.toInt := by
  have ez := ai_z32
  have h0 : ((lg_cmp z y).toInt = 0) ↔ z.toInt = y.toInt := by rw [← ez, Int32.toInt_inj, lg_cmp_eq, ← Int64.toInt_inj]
  have h1 : ((lg_cmp z y).toInt < 0) ↔ z.toInt < y.toInt := by rw [← ez, ← Int32.lt_iff_toInt_lt, lg_cmp_lt, Int64.lt_iff_toInt_lt]
  have h2 : (0 < (lg_cmp z y).toInt) ↔ y.toInt < z.toInt := by rw [← ez, ← Int32.lt_iff_toInt_lt, lg_cmp_gt, Int64.lt_iff_toInt_lt]
  cases q <;> simp only [ai_op, ai_cP, h0, h1, h2]
end ASW
theorem ai_rtake {α : Type} {l r : List α} {a : α} {n : Nat} (h : l.drop n = a :: r) : (l.take (n + 1)).reverse = a :: (l.take n).reverse ∧ l.drop (n + 1) = r ∧ l = l.take n ++ a :: r := by
  have hl : l = l.take n ++ a :: r := by rw [← h]; exact (List.take_append_drop n l).symm
  have hn : n < l.length := by
    have := congrArg List.length h
    rw [List.length_drop, List.length_cons] at this
    omega
  have hg : l[n]? = some a := by
    have := congrArg (fun t => t[0]?) h
    simpa using this
  refine ⟨?_, ?_, hl⟩
  · rw [List.take_succ, hg]
    simp
  · have := congrArg (List.drop 1) h
    rw [List.drop_drop] at this
    simpa using this
theorem ai_swt_ok {f : ai_G → Int → Option (List ai_O)} {G : ai_G} {a : ai_V} : ∀ (offs : List Int) (j : Int) (outs : List ai_O), ai_swt f G a j offs = some outs → ∀ z : Int, ((ai_b G a).1 ≤ z ∧ z ≤ (ai_b G a).2) → j ≤ z → z < j + (offs.length : Int) → ∃ off outs', offs[(z - j).toNat]? = some off ∧ f (ai_ref2 G 0 a (ai_lI z)) off = some outs' ∧ ∀ o ∈ outs', o ∈ outs
  | [], j, outs, h, z, hz, h1, h2 => by simp at h2; omega
  | off :: r, j, outs, h, z, hz, h1, h2 => by
    unfold ai_swt at h
    rw [List.length_cons] at h2
    by_cases e : z = j
    · subst e
      have hc : (decide ((ai_b G a).1 ≤ z) && decide (z ≤ (ai_b G a).2)) = true := by simp [hz]
      rw [hc] at h
      obtain ⟨o1, o2, g1, g2, rfl⟩ := ai_join_ok h
      exact ⟨off, o1, by simp, g1, fun o ho => List.mem_append_left _ ho⟩
    · have e3 : (z - j).toNat = (z - (j + 1)).toNat + 1 := by omega
      cases hc : (decide ((ai_b G a).1 ≤ j) && decide (j ≤ (ai_b G a).2)) with
      | true =>
        rw [hc] at h
        obtain ⟨o1, o2, g1, g2, rfl⟩ := ai_join_ok h
        obtain ⟨off', o', q1, q2, q3⟩ := ai_swt_ok r (j + 1) o2 g2 z hz (by omega) (by omega)
        exact ⟨off', o', by rw [e3]; simpa using q1, q2, fun o ho => List.mem_append_right _ (q3 o ho)⟩
      | false =>
        rw [hc] at h
        obtain ⟨off', o', q1, q2, q3⟩ := ai_swt_ok r (j + 1) outs h z hz (by omega) (by omega)
        exact ⟨off', o', by rw [e3]; simpa using q1, q2, q3⟩
theorem ai_got_ok {p : Program} {l : Launch} {e : Env} {R : Room} {s : State} {m : MethodId} {args : Array Value} {below : List Frame} {meth : Method} {c : Code} {Q : State → Prop} {σ : ai_Rh} {sb : Nat} {D : va_G} {A : Nat → Prop} {nL : Nat} {ad : List Nat} {pc : Nat} {o : ai_O} {als : ai_L} {r : List ai_V} {cs ss : Nat} (hg : ai_gok σ o.2.1) (K : ∀ τ, ai_le σ τ → ai_gok τ (ai_got o).2.1 → ai_K p l e R s m args below meth c Q τ sb D A nL ad pc (als, (ai_got o).2.2.2.1 ++ r, o.2.2.2.2.1, cs, ss)) : ai_K p l e R s m args below meth c Q σ sb D A nL ad pc (als, o.2.2.2.1 ++ r, o.2.2.2.2.1, cs, ss) := by
  obtain ⟨q, G, al, st, aw, cs0, ss0⟩ := o
  dsimp only at hg ⊢
  unfold ai_got at K
  dsimp only at K
  cases st with
  | nil => exact K σ ai_le.rf hg
  | cons v st =>
    dsimp only at K
    cases hm : ai_mat G v with
    | none =>
      rw [hm] at K
      exact K σ ai_le.rf hg
    | some q9 =>
      rw [hm] at K
      dsimp only at K
      intro ls stk H locs ws tys y hy hls hst hme
      obtain ⟨u, stk1, rfl, mu, hst1⟩ := hst.cons
      obtain ⟨τ, s1, s2, s3⟩ := ai_mat_ok hg mu hm
      exact K τ s1 s2 ls (u :: stk1) H locs ws tys y hy (hls.up s1) ⟨s3, ai_stk.up s1 hst1⟩ (hme.up s1)
section ASX
variable {T : Nat → ai_MD} {B : Nat → Nat → List ai_E} {hk : ai_H} {N : ai_Ns} {L : Nat} {sb : Nat}
theorem ai_snd (hcl : ai_clok) (hB : ∀ M q, ai_codeok T (T M) (B M q) ∧ ∀ en r, B M q = en :: r → en.1 = q) (hMo : ∀ K, ¬ (T K).2.2.2.2.2.2.2 = 3 → ai_mok (T K)) (hhk : ∀ K G as aw outs, hk K G as aw = some outs → ai_cs (T K) L sb G as aw outs) : ∀ (n M : Nat) (stops : List Nat) (code : List ai_E) (G : ai_G) (x : ai_S) (outs : List ai_O), ai_ex T B hk N L n M stops code G x = some outs → ai_codeok T (T M) code → ∀ (ρ : ai_Rh), ai_gok ρ G → ∀ {p : Program} {l : Launch} {e : Env} {R : Room} {s : State} {m : MethodId} {args : Array Value} {below : List Frame} {meth : Method} {c : Code} {Q : State → Prop} {D : va_G} {A : Nat → Prop} {xs : Nat → Int32} {ad : List Nat}, ai_cx2 p s m args meth c R (T M) A sb L xs → (∀ σ, ai_le ρ σ → ai_rk (T M) L xs σ) → (∀ o ∈ outs, (o.1 ∈ stops ∨ ai_rt (T M) o) → ∀ σ, ai_le ρ σ → ai_gok σ o.2.1 → ai_K p l e R s m args below meth c Q σ sb D A (T M).2.2.2.1 ad o.1 o.2.2) → ∃ en rest, code = en :: rest ∧ ai_K p l e R s m args below meth c Q ρ sb D A (T M).2.2.2.1 ad en.1 x := by
  intro n
  induction n with
  | zero => intro M stops code G x outs h; cases h
  | succ n ih =>
    intro M stops code G x outs h hcode ρ hG p l e R s m args below meth c Q D A xs ad cx hrk HO
    cases code with
    | nil => cases h
    | cons en rest =>
      unfold ai_ex at h
      dsimp only at h
      obtain ⟨he, hnx, hcr⟩ := hcode
      refine ⟨en, rest, rfl, ?_⟩
      have to : ∀ (code' : List ai_E) (G' : ai_G) (x' : ai_S) (outs' : List ai_O) (q : Nat) (σ : ai_Rh), ai_le ρ σ → ai_to (ai_ex T B hk N L n M) (B M) (N.1 M) (N.2.1 M) stops code' G' x' = some outs' → (∀ o ∈ outs', o ∈ outs) → ai_codeok T (T M) code' → ai_gok σ G' → (∀ en r, code' = en :: r → en.1 = q) → ai_K p l e R s m args below meth c Q σ sb D A (T M).2.2.2.1 ad q x' := by
        intro code' G' x' outs' q σ hσ h' hsub hc' hG' hq
        obtain ⟨en2, r2, e2, k2⟩ := ai_to_ok (P := ai_codeok T (T M)) (md := T M) (ρb := ρ) (p := p) (l := l) (e := e) (R := R) (s := s) (m := m) (args := args) (below := below) (meth := meth) (c := c) (Q := Q) (sb := sb) (D := D) (A := A) (nL := (T M).2.2.2.1) (ad := ad) (fun stops' code2 G2 x2 outs2 h2 hc2 ρ2 hρ2 hG2 HO2 => ih M stops' code2 G2 x2 outs2 h2 hc2 ρ2 hG2 cx (fun σ' hσ' => hrk σ' (hρ2.tr hσ')) HO2) (hB M) h' hc' hσ hG' (fun o ho hor σ' hσ' hg => HO o (hsub o ho) hor σ' (hσ.tr hσ') hg)
        rw [hq en2 r2 e2] at k2
        exact k2
      cases hsim : ai_simp (T M) L en G x.1 x.2.1 x.2.2.1 x.2.2.2.1 x.2.2.2.2 with
      | some y =>
        rw [hsim] at h
        intro ls stk H locs ws tys y0 hy hls hst hm
        exact ai_simp_ok hcl he.1 cx.1 (hrk ρ ai_le.rf) hG hls hst hm hsim ((to rest G y outs _ ρ ai_le.rf h (fun _ h => h) hcr hG hnx).at hy)
      | none =>
        rw [hsim] at h
        dsimp only at h
        cases hrd : ai_rdm en G x.1 x.2.1 x.2.2.1 x.2.2.2.1 x.2.2.2.2 with
        | some y =>
        rw [hrd] at h
        intro ls stk H locs ws tys y0 hy hls hst hm
        obtain ⟨Gy, y⟩ := y
        exact ai_rdm_ok hcl he.1 cx.1 hG hls hst hm hrd (fun σ hσ hgσ => (to rest Gy y outs _ σ hσ h (fun _ h => h) hcr hgσ hnx).at hy)
        | none =>
        rw [hrd] at h
        dsimp only at h
        obtain ⟨pc, ins, len, na, nb, ni, nz⟩ := en
        obtain ⟨⟨hd, hlen, hw⟩, hj, hw2⟩ := he
        obtain ⟨⟨hx, hb, hml, hown, hts, hA, hini, hR, hao, hsc⟩, hnw⟩ := id cx
        dsimp only at hd hlen hw hj hw2 hnx ⊢
        have l1 : ai_len ins = 1 → len = 1 := fun q => by rcases hlen with h | h <;> omega
        have l3 : ai_len ins = 3 → len = 3 := fun q => by rcases hlen with h | h <;> omega
        have br : ∀ (op : Nat) (a b : ai_V) (tq fq : Nat) (tc fc : List ai_E) (x' : ai_S) (outs' : List ai_O) (zx zy : Int), ai_br (ai_to (ai_ex T B hk N L n M) (B M) (N.1 M) (N.2.1 M) stops) op a b tc fc G x' = some outs' → (∀ o ∈ outs', o ∈ outs) → ai_codeok T (T M) tc → ai_codeok T (T M) fc → (∀ en r, tc = en :: r → en.1 = tq) → (∀ en r, fc = en :: r → en.1 = fq) → ai_nm ρ a zx → ai_nm ρ b zy → ((ai_b G a).1 ≤ zx ∧ zx ≤ (ai_b G a).2) → ((ai_b G b).1 ≤ zy ∧ zy ≤ (ai_b G b).2) → (ai_cP op zx zy → ai_K p l e R s m args below meth c Q ρ sb D A (T M).2.2.2.1 ad tq x') ∧ (¬ ai_cP op zx zy → ai_K p l e R s m args below meth c Q ρ sb D A (T M).2.2.2.1 ad fq x') := by
          intro op a b tq fq tc fc x' outs' zx zy h' hsub ht hf hqt hqf nx ny bx by'
          unfold ai_br at h'
          split at h'
          · rename_i hdc
            have := ai_dc_ok nx ny bx by' hdc
            exact ⟨fun _ => to tc G x' outs' tq ρ ai_le.rf h' hsub ht hG hqt, fun hn => absurd (this.mpr rfl) hn⟩
          · rename_i hdc
            have := ai_dc_ok nx ny bx by' hdc
            exact ⟨fun hn => absurd (this.mp hn) (by decide), fun _ => to fc G x' outs' fq ρ ai_le.rf h' hsub hf hG hqf⟩
          · obtain ⟨o1, o2, h1, h2, rfl⟩ := ai_join_ok h'
            exact ⟨fun hc => to tc _ x' o1 tq ρ ai_le.rf h1 (fun o ho => hsub o (List.mem_append_left _ ho)) ht (ai_ref2_ok hG nx ny bx by' hc) hqt, fun hc => to fc _ x' o2 fq ρ ai_le.rf h2 (fun o ho => hsub o (List.mem_append_right _ ho)) hf (ai_ref2_ok hG nx ny bx by' (ai_ng_ok.mpr hc)) hqf⟩
        have z0 : ai_nm ρ (ai_lI 0) 0 := ai_nmL
        intro ls stk H locs ws tys y0 hy hls hst hm
        obtain ⟨hP, hD, hKk, hS, hW⟩ := id hm
        have call : ∀ (K tot : Nat), ai_call T hk N.2.2 (fun K G as aw => ai_ex T B hk N L n K [] (B K 0) G (ai_arg 0 as, [], aw, 0, 0)) (ai_to (ai_ex T B hk N L n M) (B M) (N.1 M) (N.2.1 M) stops rest) M K G x tot = some outs → ¬ (T K).2.2.2.2.2.2.2 = 3 → len = 3 → ai_may (T M) (T K) tot x.2.1 x.2.2.2.1 x.2.2.2.2 = true ∧ ∃ couts, ai_cs (T K) L sb G (x.2.1.take tot).reverse x.2.2.1 couts ∧ ∀ o ∈ couts, ∀ σ, ai_le ρ σ → ai_gok σ o.2.1 → ai_K p l e R s m args below meth c Q σ sb D A (T M).2.2.2.1 (ws.map Prod.fst) (pc + 3) (x.1, o.2.2.2.1 ++ x.2.1.drop tot, o.2.2.2.2.1, x.2.2.2.1 + (T K).2.2.2.2.2.2.1.cells, x.2.2.2.2 + (T K).2.2.2.2.2.2.1.slots) := by
          intro K tot h' hkd hl3
          subst hl3
          unfold ai_call at h'
          obtain ⟨hmay, h1⟩ := ai_gd_ok h'
          obtain ⟨couts, hco, hall⟩ := ai_bd_ok h1
          refine ⟨hmay, couts, ?_, fun o ho σ hσ hg => ?_⟩
          · split at hco
            · rename_i hh
              cases hco
              exact hhk _ _ _ _ _ hh
            · obtain ⟨bouts, hbo, hmeet⟩ := ai_bd_ok hco
              have hsum : ((x.2.1.take tot).reverse.map ai_cat).sum ≤ (T K).2.2.2.1 := by
                unfold ai_may at hmay
                simp only [Bool.and_eq_true, decide_eq_true_eq] at hmay
                rw [List.map_reverse, List.sum_reverse]
                exact hmay.2.2.2.2.2.2
              refine ai_met (L := L) (jn := N.2.2 K) (hMo K hkd) hkd hmeet hsum (fun ρ' hG' hrb' {p l e R s m args below meth c Q D A xs ad} cx' HO' => ?_)
              obtain ⟨en, rest, hc, hk'⟩ := ih K [] (B K 0) G _ bouts hbo (hB K 0).1 ρ' hG' (l := l) (e := e) (below := below) (Q := Q) (D := D) (ad := ad) cx' (fun σ hσ => ⟨hrb' σ hσ, fun h => absurd h hkd⟩) (fun o ho hor σ hσ hg => HO' o ho (by rcases hor with h | h; cases h; exact h) σ hσ hg)
              have := (hB K 0).2 en rest hc
              rw [this] at hk'
              exact hk'
          · obtain ⟨o', g1, g2⟩ := ai_all_ok hall o ho
            exact ai_got_ok hg (fun τ hτ hgτ => (to rest _ _ o' _ τ (hσ.tr hτ) g1 g2 hcr hgτ hnx).at hy)
        unfold ai_ctl at h
        dsimp only at h
        split at h
        · -- goto
          rename_i off
          have ht : (pc : Int) + off = (((pc : Int) + off).toNat : Int) := by
            have : 0 ≤ (pc : Int) + off := hj
            omega
          cases l3 rfl
          exact lv_goto hx hb hd ht (to _ G x outs _ ρ ai_le.rf h (fun _ h => h) (hB M _).1 hG (hB M _).2 ls stk H locs ws tys y0 hy hls hst hm)
        · -- ifCond
          rename_i q off
          have ht : (pc : Int) + off = (((pc : Int) + off).toNat : Int) := by
            have : 0 ≤ (pc : Int) + off := hj
            omega
          cases l3 rfl
          obtain ⟨a, r, hxs, h1⟩ := ai_p1_ok h
          obtain ⟨hi, h2⟩ := ai_gd_ok h1
          rw [hxs] at hst
          obtain ⟨u, stk1, rfl, ma, hst1⟩ := hst.cons
          obtain ⟨z, rfl, bz, nz'⟩ := ai_int' hG ma hi
          obtain ⟨kt, kf⟩ := br _ a (ai_lI 0) _ (pc + 3) _ rest _ outs z.toInt 0 h2 (fun _ h => h) (hB M _).1 hcr (hB M _).2 hnx nz' z0 bz ⟨Int.le_refl _, Int.le_refl _⟩
          exact ai_if hx hb hd ht (fun hc => kt hc ls stk1 H locs ws tys y0 hy hls hst1 hm) (fun hc => kf hc ls stk1 H locs ws tys y0 hy hls hst1 hm)
        · -- if_icmp
          rename_i q off
          have ht : (pc : Int) + off = (((pc : Int) + off).toNat : Int) := by
            have : 0 ≤ (pc : Int) + off := hj
            omega
          cases l3 rfl
          obtain ⟨b, a, r, hxs, h1⟩ := ai_p2_ok h
          obtain ⟨hi, h2⟩ := ai_gd_ok h1
          rw [Bool.and_eq_true] at hi
          rw [hxs] at hst
          obtain ⟨u, stk0, rfl, mb, hst0⟩ := hst.cons
          obtain ⟨u2, stk1, rfl, ma, hst1⟩ := hst0.cons
          obtain ⟨y, rfl, b_y, n_y⟩ := ai_int' hG mb hi.2
          obtain ⟨z, rfl, bz, nz'⟩ := ai_int' hG ma hi.1
          obtain ⟨kt, kf⟩ := br _ a b _ (pc + 3) _ rest _ outs z.toInt y.toInt h2 (fun _ h => h) (hB M _).1 hcr (hB M _).2 hnx nz' n_y bz b_y
          exact ai_icmp hx hb hd ht (fun hc => kt hc ls stk1 H locs ws tys y0 hy hls hst1 hm) (fun hc => kf hc ls stk1 H locs ws tys y0 hy hls hst1 hm)
        · -- lcmp
          cases l1 rfl
          cases rest with
          | nil => cases h
          | cons en2 rest2 =>
            dsimp only at h
            obtain ⟨he2, hnx2, hcr2⟩ := hcr
            obtain ⟨pc2, ins2, len2, na2, nb2, ni2, nz2⟩ := en2
            obtain ⟨⟨hd2, hlen2, -⟩, hj2, -⟩ := he2
            dsimp only at h hd2 hlen2 hj2 hnx2
            have epc : pc2 = pc + 1 := hnx _ rest2 rfl
            subst epc
            split at h
            · rename_i q off
              have l3' : len2 = 3 := by rcases hlen2 with h | h; cases h; exact h
              subst l3'
              have ht : ((pc + 1 : Nat) : Int) + off = ((((pc + 1 : Nat) : Int) + off).toNat : Int) := by
                have : 0 ≤ ((pc + 1 : Nat) : Int) + off := hj2
                omega
              obtain ⟨b, a, r, hxs, h1⟩ := ai_p2_ok h
              obtain ⟨hi, h2⟩ := ai_gd_ok h1
              rw [Bool.and_eq_true] at hi
              rw [hxs] at hst
              obtain ⟨u, stk0, rfl, mb, hst0⟩ := hst.cons
              obtain ⟨u2, stk1, rfl, ma, hst1⟩ := hst0.cons
              obtain ⟨y, rfl, b_y, n_y⟩ := ai_lng' hG mb hi.2
              obtain ⟨z, rfl, bz, nz'⟩ := ai_lng' hG ma hi.1
              obtain ⟨kt, kf⟩ := br _ a b _ (pc + 1 + 3) _ rest2 _ outs z.toInt y.toInt h2 (fun _ h => h) (hB M _).1 hcr2 (hB M _).2 hnx2 nz' n_y bz b_y
              refine W.lcmp hx hb hd ?_
              exact ai_if hx hb hd2 ht (fun hc => kt (ai_lgc.mp hc) ls stk1 H locs ws tys y0 hy hls hst1 hm) (fun hc => kf (fun g => hc (ai_lgc.mpr g)) ls stk1 H locs ws tys y0 hy hls hst1 hm)
            · cases h
        · -- ifnonnull
          rename_i off
          have ht : (pc : Int) + off = (((pc : Int) + off).toNat : Int) := by
            have : 0 ≤ (pc : Int) + off := hj
            omega
          cases l3 rfl
          obtain ⟨a, r, hxs, h1⟩ := ai_p1_ok h
          rw [hxs] at hst
          obtain ⟨u, stk1, rfl, ma, hst1⟩ := hst.cons
          cases h5 : (a.1 == 5) with
          | true =>
            rw [h5] at h1
            obtain ⟨n5, t5, lo5, hi5⟩ := a
            have e5 : n5 = 5 := by simpa using h5
            subst e5
            cases ma
            exact lv_ifnonnullN hx hb hd (to _ G _ outs _ ρ ai_le.rf h1 (fun _ h => h) hcr hG hnx ls stk1 H locs ws tys y0 hy hls hst1 hm)
          | false =>
            rw [h5] at h1
            obtain ⟨hi, h2⟩ := ai_gd_ok h1
            obtain ⟨q, -, rfl⟩ := ai_ref ma hi
            exact lv_ifnonnull hx hb hd ht (to _ G _ outs _ ρ ai_le.rf h2 (fun _ h => h) (hB M _).1 hG (hB M _).2 ls stk1 H locs ws tys y0 hy hls hst1 hm)
        · -- tableswitch
          rename_i dflt lo hi offs
          obtain ⟨hjd, hjo⟩ := hj
          have ht : (pc : Int) + dflt = (((pc : Int) + dflt).toNat : Int) := by omega
          obtain ⟨a, r, hxs, h1⟩ := ai_p1_ok h
          obtain ⟨hi1, h2⟩ := ai_gd_ok h1
          simp only [Bool.and_eq_true, decide_eq_true_eq] at hi1
          rw [hxs] at hst
          obtain ⟨u, stk1, rfl, ma, hst1⟩ := hst.cons
          obtain ⟨z, rfl, bz, nz'⟩ := ai_int' hG ma hi1.1
          obtain ⟨o1, o23, g1, g23, rfl⟩ := ai_join_ok h2
          obtain ⟨o2, o3, g2, g3, rfl⟩ := ai_join_ok g23
          by_cases c1 : z.toInt < lo
          · have hc : decide ((ai_b G a).1 < lo) = true := by simp; omega
            rw [hc] at g1
            exact lv_tableOut hx hb hd (Or.inl c1) ht (to _ _ _ o1 _ ρ ai_le.rf g1 (fun o ho => List.mem_append_left _ ho) (hB M _).1 (ai_ref2_ok hG nz' ai_nmL bz ⟨Int.le_refl _, Int.le_refl _⟩ c1) (hB M _).2 ls stk1 H locs ws tys y0 hy hls hst1 hm)
          · by_cases c2 : hi < z.toInt
            · have hc : decide (hi < (ai_b G a).2) = true := by simp; omega
              rw [hc] at g2
              exact lv_tableOut hx hb hd (Or.inr c2) ht (to _ _ _ o2 _ ρ ai_le.rf g2 (fun o ho => List.mem_append_right _ (List.mem_append_left _ ho)) (hB M _).1 (ai_ref2_ok hG nz' ai_nmL bz ⟨Int.le_refl _, Int.le_refl _⟩ c2) (hB M _).2 ls stk1 H locs ws tys y0 hy hls hst1 hm)
            · obtain ⟨off, o4, q1, q2, q3⟩ := ai_swt_ok offs.toList lo o3 g3 z.toInt bz (by omega) (by omega)
              have hof : 0 ≤ (pc : Int) + off := hjo off (List.mem_of_getElem? q1)
              have ht2 : (pc : Int) + off = (((pc : Int) + off).toNat : Int) := by omega
              exact lv_tableIn hx hb hd c1 c2 (by rw [← Array.getElem?_toList]; exact q1) ht2 (to _ _ _ o4 _ ρ ai_le.rf q2 (fun o ho => List.mem_append_right _ (List.mem_append_right _ (q3 o ho))) (hB M _).1 (ai_ref2_ok hG nz' ai_nmL bz ⟨Int.le_refl _, Int.le_refl _⟩ rfl) (hB M _).2 ls stk1 H locs ws tys y0 hy hls hst1 hm)
        · cases l1 rfl
          obtain ⟨hr, h1⟩ := ai_gd_ok h
          cases h1
          simp only [Bool.and_eq_true, decide_eq_true_eq] at hr
          exact HO _ List.mem_cons_self (Or.inr ⟨⟨_, hd, hr.1⟩, hr.2.1, hr.2.2⟩) ρ ai_le.rf hG ls stk H locs ws tys y0 hy hls hst hm
        · cases l1 rfl
          obtain ⟨hr, h1⟩ := ai_gd_ok h
          cases h1
          simp only [Bool.and_eq_true, decide_eq_true_eq] at hr
          exact HO _ List.mem_cons_self (Or.inr ⟨⟨_, hd, hr.1⟩, hr.2.1, hr.2.2⟩) ρ ai_le.rf hG ls stk H locs ws tys y0 hy hls hst hm
        · cases l1 rfl
          obtain ⟨hr, h1⟩ := ai_gd_ok h
          cases h1
          simp only [Bool.and_eq_true, decide_eq_true_eq] at hr
          exact HO _ List.mem_cons_self (Or.inr ⟨⟨_, hd, hr.1⟩, hr.2.1, hr.2.2⟩) ρ ai_le.rf hG ls stk H locs ws tys y0 hy hls hst hm
        · -- invokestatic
          obtain ⟨hkd, h1⟩ := ai_gd_ok h
          have ek : (T na).2.2.2.2.2.2.2 = 1 := by simpa using hkd
          have hk3 : ¬ (T na).2.2.2.2.2.2.2 = 3 := by omega
          have l3' := l3 rfl
          obtain ⟨hmay, couts, hcs, hK⟩ := call na _ h1 hk3 l3'
          subst l3'
          unfold ai_may at hmay
          simp only [Bool.and_eq_true, decide_eq_true_eq] at hmay
          obtain ⟨y1, y2, y3, y4, y5, y6, y7⟩ := hmay
          obtain ⟨m1, m2, m3, m4, m5, m6, m7, m8⟩ := hMo na hk3
          obtain ⟨lv, hlv, -⟩ := id hls
          subst hR
          have hM := hcs ρ l D ws tys (stk.take (T na).2.2.2.2.2.1).reverse H.size (fun σ hσ => (hrk σ hσ).1) hG (hst.take _).rev hW
          have hpre : PreS s H (ai_Pc D ws tys (stk.take (T na).2.2.2.2.2.1).reverse H.size) (stk.take (T na).2.2.2.2.2.1).reverse := ⟨ai_Pc_blind _ _ _ _ _, fun U hU hWm => ⟨rfl, by rw [hU], by rw [hU]; exact hP, va_K.moved hWm.alike hKk, hD.weaken (fun _ _ _ _ => trivial), va_AO.moved hWm.alike hao, hnw.warm hWm⟩⟩
          have hlen' : (stk.take (T na).2.2.2.2.2.1).reverse.length = (T na).2.2.2.2.2.1 := by rw [List.length_reverse, List.length_take, ← hst.len]; omega
          have hstk : stk = (stk.take (T na).2.2.2.2.2.1).reverse.reverse ++ stk.drop (T na).2.2.2.2.2.1 := by rw [List.reverse_reverse, List.take_append_drop]
          have hcat : 2 * (F0 m pc ls stk).monitorRoom + ((stk.drop (T na).2.2.2.2.2.1).map fun v => v.category).sum ≤ 8 := by
            rw [ai_cats (hst.drop _)]
            show 2 * 0 + _ ≤ 8
            omega
          refine ai_call_ok (a := (stk.take (T na).2.2.2.2.2.1).reverse.toArray) hA hm hls (hst.drop _) ?_ (fun o ho σ hσ hg => hK o ho σ hσ hg)
          rcases hw2 with ⟨-, hl⟩ | ⟨-, hl⟩
          · exact va_runS (cc := (T M).2.2.1) (nL := (T M).2.2.2.1) (own := (T M).1) (Ts := ai_tb) ⟨hx, hb, hml, hown, hts⟩ hM ⟨callB_of (T na).2.2.2.2.2.1 hts (ai_good m3) rfl rfl rfl (hts _ m5) (hts _ hl) m4 ⟨y3, y4⟩, hts _ (m7 ek)⟩ hpre rfl hlen' hlv.1 hstk hcat hd ⟨y5, y6⟩
          · exact va_runSN (cc := (T M).2.2.1) (nL := (T M).2.2.2.1) (own := (T M).1) (Ts := ai_tb) ⟨hx, hb, hml, hown, hts⟩ hM ⟨va_cnB (T na).2.2.2.2.2.1 hts (ai_good m3) rfl rfl rfl (hnw _ hl) (hts _ m5) m4 ⟨y3, y4⟩, hts _ (m7 ek), trivial⟩ hpre rfl hlen' hlv.1 hstk hcat hd ⟨y5, y6⟩
        · -- invokespecial
          obtain ⟨hkd, h1⟩ := ai_gd_ok h
          simp only [Bool.and_eq_true, Bool.not_eq_true', beq_eq_false_iff_ne, beq_iff_eq] at hkd
          obtain ⟨h999, ek, hrc⟩ := hkd
          have hk3 : ¬ (T na).2.2.2.2.2.2.2 = 3 := by omega
          have l3' := l3 rfl
          obtain ⟨hmay, couts, hcs, hK⟩ := call na _ h1 hk3 l3'
          subst l3'
          unfold ai_may at hmay
          simp only [Bool.and_eq_true, decide_eq_true_eq] at hmay
          obtain ⟨y1, y2, y3, y4, y5, y6, y7⟩ := hmay
          obtain ⟨m1, m2, m3, m4, m5, m6, m7, m8⟩ := hMo na hk3
          obtain ⟨lv, hlv, -⟩ := id hls
          subst hR
          split at hrc
          · rename_i a rA hdr
            have hdr2 := hst.drop (T na).2.2.2.2.2.1
            rw [hdr] at hdr2
            obtain ⟨u, S2, hS2, ma, hst2⟩ := hdr2.cons
            unfold ai_rcv at hrc
            rw [Bool.and_eq_true] at hrc
            obtain ⟨b, hbq, rfl⟩ := ai_ref ma hrc.1
            obtain ⟨t1, t2, t3⟩ := ai_rtake hdr
            obtain ⟨u1, u2, u3⟩ := ai_rtake hS2
            have hM := hcs ρ l D ws tys (.ref b :: (stk.take (T na).2.2.2.2.2.1).reverse) H.size (fun σ hσ => (hrk σ hσ).1) hG (by rw [t1]; exact ⟨ma, (hst.take _).rev⟩) hW
            have hpre : PreS s H (ai_Pc D ws tys (.ref b :: (stk.take (T na).2.2.2.2.2.1).reverse) H.size) (.ref b :: (stk.take (T na).2.2.2.2.2.1).reverse) := ⟨ai_Pc_blind _ _ _ _ _, fun U hU hWm => ⟨rfl, by rw [hU], by rw [hU]; exact hP, va_K.moved hWm.alike hKk, hD.weaken (fun _ _ _ _ => trivial), va_AO.moved hWm.alike hao, hnw.warm hWm⟩⟩
            have hlen' : (stk.take (T na).2.2.2.2.2.1).reverse.length = (T na).2.2.2.2.2.1 := by rw [List.length_reverse, List.length_take, ← hst.len]; omega
            have hstk : stk = (stk.take (T na).2.2.2.2.2.1).reverse.reverse ++ .ref b :: S2 := by rw [List.reverse_reverse]; exact u3
            have hcat : 2 * (F0 m pc ls stk).monitorRoom + (S2.map fun v => v.category).sum ≤ 8 := by
              rw [ai_cats hst2]
              rw [t2] at y2
              show 2 * 0 + _ ≤ 8
              omega
            refine ai_call_ok (a := (Value.ref b :: (stk.take (T na).2.2.2.2.2.1).reverse).toArray) hA hm hls (rest := S2) (rA := rA) hst2 ?_ (fun o ho σ hσ hg => by have := hK o ho σ hσ hg; rw [t2] at this; exact this)
            have hrn := (m8 ek).2.2
            have m3' : Jvm.Cond.code (T na).2.1 (T na).2.2.1 (T na).2.2.2.1 none ∈ ai_tb := by rw [← hrn]; exact m3
            rcases hw2 h999 with ⟨-, hl⟩ | ⟨-, hl⟩
            · exact va_runI (cc := (T M).2.2.1) (nL := (T M).2.2.2.1) (own := (T M).1) (Ts := ai_tb) ⟨hx, hb, hml, hown, hts⟩ hM ⟨callB_of (T na).2.2.2.2.2.1 hts (ai_good m3) (by rw [hrn]) rfl rfl (hts _ m5) (hts _ hl) m4 ⟨y3, y4⟩, (m8 ek).1, hts _ (m8 ek).2.1⟩ hpre rfl hlen' hlv.1 hstk hcat hd ⟨y5, y6⟩
            · exact va_runIN (cc := (T M).2.2.1) (nL := (T M).2.2.2.1) (own := (T M).1) (Ts := ai_tb) ⟨hx, hb, hml, hown, hts⟩ hM ⟨va_cnB (T na).2.2.2.2.2.1 hts (ai_good m3) (by rw [hrn]) rfl rfl (hnw _ hl) (hts _ m5) m4 ⟨y3, y4⟩, (m8 ek).1, hts _ (m8 ek).2.1⟩ hpre rfl hlen' hlv.1 hstk hcat hd ⟨y5, y6⟩
          · cases hrc
        · -- invokevirtual
          obtain ⟨hkd, h1⟩ := ai_gd_ok h
          simp only [Bool.and_eq_true, beq_iff_eq] at hkd
          obtain ⟨ek, hrc⟩ := hkd
          have hk3 : ¬ (T na).2.2.2.2.2.2.2 = 3 := by omega
          have l3' := l3 rfl
          obtain ⟨hmay, couts, hcs, hK⟩ := call na _ h1 hk3 l3'
          subst l3'
          unfold ai_may at hmay
          simp only [Bool.and_eq_true, decide_eq_true_eq] at hmay
          obtain ⟨y1, y2, y3, y4, y5, y6, y7⟩ := hmay
          obtain ⟨m1, m2, m3, m4, m5, m6, m7, m8⟩ := hMo na hk3
          obtain ⟨lv, hlv, -⟩ := id hls
          subst hR
          split at hrc
          · rename_i a rA hdr
            have hdr2 := hst.drop (T na).2.2.2.2.2.1
            rw [hdr] at hdr2
            obtain ⟨u, S2, hS2, ma, hst2⟩ := hdr2.cons
            unfold ai_rcv at hrc
            rw [Bool.and_eq_true] at hrc
            obtain ⟨b, hbq, rfl⟩ := ai_ref ma hrc.1
            have hrc2 := hrc.2
            obtain ⟨t1, t2, t3⟩ := ai_rtake hdr
            obtain ⟨u1, u2, u3⟩ := ai_rtake hS2
            split at hrc2
            · rename_i ci fs hcv
              have eci : ci = nb := by simpa using hrc2
              subst eci
              obtain ⟨ev, hev, vs9, rfl, -⟩ := ai_cell hW hcv hbq
              obtain ⟨hl, q9, hq9, hq8⟩ := hw2
              have hM := hcs ρ l D ws tys (.ref b :: (stk.take (T na).2.2.2.2.2.1).reverse) H.size (fun σ hσ => (hrk σ hσ).1) hG (by rw [t1]; exact ⟨ma, (hst.take _).rev⟩) hW
              have hpre : PreV s H (T na).2.1.cls b (ai_Pc D ws tys (.ref b :: (stk.take (T na).2.2.2.2.2.1).reverse) H.size) (stk.take (T na).2.2.2.2.2.1).reverse := ⟨ai_Pc_blind _ _ _ _ _, by rw [← hq8]; exact va_recv hKk hP hq9 hev, fun U hU hWm => ⟨rfl, by rw [hU], by rw [hU]; exact hP, va_K.moved hWm.alike hKk, hD.weaken (fun _ _ _ _ => trivial), va_AO.moved hWm.alike hao, hnw.warm hWm⟩⟩
              have hlen' : (stk.take (T na).2.2.2.2.2.1).reverse.length = (T na).2.2.2.2.2.1 := by rw [List.length_reverse, List.length_take, ← hst.len]; omega
              have hstk : stk = (stk.take (T na).2.2.2.2.2.1).reverse.reverse ++ .ref b :: S2 := by rw [List.reverse_reverse]; exact u3
              have hcat : 2 * (F0 m pc ls stk).monitorRoom + (S2.map fun v => v.category).sum ≤ 8 := by
                rw [ai_cats hst2]
                rw [t2] at y2
                show 2 * 0 + _ ≤ 8
                omega
              refine ai_call_ok (a := (Value.ref b :: (stk.take (T na).2.2.2.2.2.1).reverse).toArray) hA hm hls (rest := S2) (rA := rA) hst2 ?_ (fun o ho σ hσ hg => by have := hK o ho σ hσ hg; rw [t2] at this; exact this)
              exact va_runV (cc := (T M).2.2.1) (nL := (T M).2.2.2.1) (own := (T M).1) (Ts := ai_tb) ⟨hx, hb, hml, hown, hts⟩ hM ⟨callB_of (T na).2.2.2.2.2.1 hts (ai_good m3) rfl rfl rfl (hts _ m5) (hts _ hl) m4 ⟨y3, y4⟩, hts _ (m6 ek).1, hts _ (m6 ek).2⟩ hpre rfl hlen' hlv.1 hstk hcat hd ⟨y5, y6⟩
            · cases hrc2
          · cases hrc
        · cases h
end ASX
end
section
/-! ===== the same walk, laid so that the kernel goes through it quicker: one instruction's own lines alone are looked at; lists are made whole at once ===== -/
noncomputable def fl_get {α : Type} (l : List α) (k : Nat) : Option α := List.rec (motive := fun _ => Nat → Option α) (fun _ => none) (fun a _ ih k => Nat.rec (motive := fun _ => Option α) (some a) (fun k' _ => ih k') k) l k
theorem fl_get_eq {α : Type} (l : List α) (k : Nat) : fl_get l k = l[k]? := by
  induction l generalizing k with
  | nil => rfl
  | cons a t ih =>
    cases k with
    | zero => rfl
    | succ k => exact (ih k).trans (by simp)
noncomputable def fl_set {α β : Type} (l : List α) (k : Nat) (c : α) (f : List α → β) : β := List.rec (motive := fun _ => Nat → (List α → β) → β) (fun _ f => f []) (fun a t ih k f => Nat.rec (motive := fun _ => β) (f (c :: t)) (fun k' _ => ih k' (fun t' => f (a :: t'))) k) l k f
theorem fl_set_eq {α β : Type} (l : List α) (k : Nat) (c : α) (f : List α → β) : fl_set l k c f = f (l.set k c) := by
  induction l generalizing k f with
  | nil => rfl
  | cons a t ih =>
    cases k with
    | zero => rfl
    | succ k => exact ih k (fun t' => f (a :: t'))
noncomputable def fl_flt {α β : Type} (l : List α) (p : α → Bool) (f : List α → β) : β := List.rec (motive := fun _ => (List α → β) → β) (fun f => f []) (fun a _ ih f => Bool.rec (motive := fun _ => β) (ih f) (ih (fun t' => f (a :: t'))) (p a)) l f
theorem fl_flt_eq {α β : Type} (l : List α) (p : α → Bool) (f : List α → β) : fl_flt l p f = f (l.filter p) := by
  induction l generalizing f with
  | nil => rfl
  | cons a t ih =>
    rw [List.filter_cons]
    show Bool.rec (motive := fun _ => β) (fl_flt t p f) (fl_flt t p (fun t' => f (a :: t'))) (p a) = _
    cases p a with
    | false => exact ih f
    | true => exact ih (fun t' => f (a :: t'))
noncomputable def fl_app {α β : Type} (l : List α) (c : α) (f : List α → β) : β := List.rec (motive := fun _ => (List α → β) → β) (fun f => f [c]) (fun a _ ih f => ih (fun t' => f (a :: t'))) l f
theorem fl_app_eq {α β : Type} (l : List α) (c : α) (f : List α → β) : fl_app l c f = f (l ++ [c]) := by
  induction l generalizing f with
  | nil => rfl
  | cons a t ih => exact ih (fun t' => f (a :: t'))
noncomputable def fl_lk (als : ai_L) (i : Nat) : Option ai_V := List.rec (motive := fun _ => Option ai_V) none (fun q _ ih => Bool.rec (motive := fun _ => Option ai_V) ih (some q.2) (Nat.beq q.1 i)) als
theorem fl_beq (a b : Nat) : Nat.beq a b = (a == b) := by
  cases h : Nat.beq a b with
  | true => rw [Nat.eq_of_beq_eq_true h]; simp
  | false =>
    have := Nat.ne_of_beq_eq_false h
    simp [this]
theorem fl_lk_eq (als : ai_L) (i : Nat) : fl_lk als i = ai_lk als i := by
  induction als with
  | nil => rfl
  | cons q t ih =>
    obtain ⟨k, v⟩ := q
    show Bool.rec (motive := fun _ => Option ai_V) (fl_lk t i) (some v) (Nat.beq k i) = ai_lk ((k, v) :: t) i
    have e : ai_lk ((k, v) :: t) i = (bif k == i then some v else ai_lk t i) := rfl
    rw [fl_beq, ih, e]
    cases (k == i) <;> rfl
def fp_1 (i : Nat) (q : Nat × ai_V) : Bool := !(q.1 == i) && !(q.1 + 1 == i && ai_cat q.2 == 2)
def fp_2 (i : Nat) (q : Nat × ai_V) : Bool := !(q.1 == i) && (!(q.1 == i + 1) && !(q.1 + 1 == i && ai_cat q.2 == 2))
noncomputable def af_load (als : ai_L) (st : List ai_V) (aw : ai_W) (cs ss i : Nat) (ok : ai_V → Bool) : Option ai_S := (fl_lk als i).bind fun v => ai_gd (ok v) (some (als, v :: st, aw, cs, ss))
theorem af_load_eq (als : ai_L) (st : List ai_V) (aw : ai_W) (cs ss i : Nat) (ok : ai_V → Bool) : af_load als st aw cs ss i ok = ai_load als st aw cs ss i ok := by
  unfold af_load ai_load
  rw [fl_lk_eq]
noncomputable def af_sto (als : ai_L) (st : List ai_V) (aw : ai_W) (cs ss i nL : Nat) (ok : ai_V → Bool) : Option ai_S := ai_p1 st fun v r => ai_gd (ok v && decide (i < nL)) (fl_flt als (fp_1 i) (fun t => some ((i, v) :: t, r, aw, cs, ss)))
theorem af_sto_eq (als : ai_L) (st : List ai_V) (aw : ai_W) (cs ss i nL : Nat) (ok : ai_V → Bool) : af_sto als st aw cs ss i nL ok = ai_sto als st aw cs ss i nL ok := by
  unfold af_sto ai_sto
  simp only [fl_flt_eq]
  rfl
noncomputable def af_sto2 (als : ai_L) (st : List ai_V) (aw : ai_W) (cs ss i nL : Nat) : Option ai_S := ai_p1 st fun v r => ai_gd (ai_isL v && decide (i + 1 < nL)) (fl_flt als (fp_2 i) (fun t => some ((i, v) :: t, r, aw, cs, ss)))
theorem af_sto2_eq (als : ai_L) (st : List ai_V) (aw : ai_W) (cs ss i nL : Nat) : af_sto2 als st aw cs ss i nL = ai_sto2 als st aw cs ss i nL := by
  unfold af_sto2 ai_sto2
  simp only [fl_flt_eq]
  rfl
noncomputable def af_mat {β : Type} (G : ai_G) (v : ai_V) (n : β) (f : ai_G → ai_V → β) : β := bif (v.1 == 0 || v.1 == 1) && decide (v.2.2.1 < v.2.2.2) then fl_app G (v.2.2.1, v.2.2.2, 0) (fun G' => f G' (v.1 + 2, G.length, 0, 1)) else n
theorem af_mat_eq {β : Type} (G : ai_G) (v : ai_V) (n : β) (f : ai_G → ai_V → β) : af_mat G v n f = (match ai_mat G v with
  | none => n
  | some q => f q.1 q.2) := by
  unfold af_mat ai_mat
  cases ((v.1 == 0 || v.1 == 1) && decide (v.2.2.1 < v.2.2.2)) with
  | false => rfl
  | true => exact fl_app_eq _ _ _
noncomputable def af_ald (G : ai_G) (als : ai_L) (st : List ai_V) (aw : ai_W) (cs ss ty : Nat) : Option (ai_G × ai_S) := ai_p2 st fun i a r => ai_gd (ai_isR a) ((fl_get aw a.2.1).bind fun c => match c with
  | .inr (t, n, d, ov) => ai_gd (t == ty && ai_inb G i n) ((ai_rd G ty d ov i).bind fun v => af_mat G v (some (G, als, v :: r, aw, cs, ss)) (fun G' w => bif ai_one G i then fl_flt ov (fun p => !(p.1 == (ai_b G i).1.toNat)) (fun ov' => fl_set aw a.2.1 (.inr (t, n, d, ((ai_b G i).1.toNat, w) :: ov')) (fun aw' => some (G', als, w :: r, aw', cs, ss))) else some (G', als, w :: r, aw, cs, ss)))
  | .inl _ => none)
theorem af_ald_eq (G : ai_G) (als : ai_L) (st : List ai_V) (aw : ai_W) (cs ss ty : Nat) : af_ald G als st aw cs ss ty = ai_ald G als st aw cs ss ty := by
  unfold af_ald ai_ald
  simp only [fl_get_eq, af_mat_eq, fl_flt_eq, fl_set_eq]
  rfl
noncomputable def am_getfield (en : ai_E) (G : ai_G) (als : ai_L) (st : List ai_V) (aw : ai_W) (cs ss : Nat) : Option (ai_G × ai_S) := ai_p1 st fun a r => ai_gd (ai_isR a) ((fl_get aw a.2.1).bind fun c => match c with
    | .inl (ci, fs) => ai_gd (ci == en.2.2.2.1) ((fl_get fs en.2.2.2.2.1).bind fun v => af_mat G v (some (G, als, v :: r, aw, cs, ss)) (fun G' w => fl_set fs en.2.2.2.2.1 w (fun fs' => fl_set aw a.2.1 (.inl (ci, fs')) (fun aw' => some (G', als, w :: r, aw', cs, ss)))))
    | .inr _ => none)
noncomputable def am_ald (ty : Nat) (en : ai_E) (G : ai_G) (als : ai_L) (st : List ai_V) (aw : ai_W) (cs ss : Nat) : Option (ai_G × ai_S) := af_ald G als st aw cs ss ty
noncomputable def af_rdm (ins : Instr) : ai_E → ai_G → ai_L → List ai_V → ai_W → Nat → Nat → Option (ai_G × ai_S) := match ins with
  | .getfield _ => am_getfield
  | .iaload => am_ald 0
  | .laload => am_ald 1
  | .baload => am_ald 2
  | .aaload => am_ald 3
  | _ => fun _ _ _ _ _ _ _ => none
theorem af_rdm_eq (en : ai_E) (G : ai_G) (als : ai_L) (st : List ai_V) (aw : ai_W) (cs ss : Nat) : af_rdm en.2.1 en G als st aw cs ss = ai_rdm en G als st aw cs ss := by
  obtain ⟨pc, ins, len, na, nb, ni, nz⟩ := en
  dsimp only
  cases ins with
  | getfield i =>
    show am_getfield (pc, .getfield i, len, na, nb, ni, nz) G als st aw cs ss = _
    unfold am_getfield ai_rdm
    simp only [fl_get_eq, af_mat_eq, fl_set_eq]
    rfl
  | iaload => exact af_ald_eq G als st aw cs ss 0
  | laload => exact af_ald_eq G als st aw cs ss 1
  | baload => exact af_ald_eq G als st aw cs ss 2
  | aaload => exact af_ald_eq G als st aw cs ss 3
  | _ => rfl
noncomputable def af_ast (G : ai_G) (als : ai_L) (st : List ai_V) (aw : ai_W) (cs ss ty : Nat) (ok : ai_V → Bool) : Option ai_S := ai_p3 st fun v i a r => ai_gd (ai_isR a && ok v) ((fl_get aw a.2.1).bind fun c => match c with
  | .inr (t, n, d, ov) => ai_gd (t == ty && ai_inb G i n) (bif ai_one G i && ai_look d ov (ai_b G i).1.toNat == v then some (als, r, aw, cs, ss) else (ai_wr G ty d ov i v).bind fun q => fl_set aw a.2.1 (.inr (t, n, q.1, q.2)) (fun aw' => some (als, r, aw', cs, ss)))
  | .inl _ => none)
theorem ai_set_self {α : Type} {l : List α} {k : Nat} {c : α} (h : l[k]? = some c) : l.set k c = l := by
  apply List.ext_getElem?
  intro i
  by_cases hi : k = i
  · subst hi
    rw [List.getElem?_set_self (List.getElem?_eq_some_iff.mp h).1, h]
  · rw [List.getElem?_set_ne hi]
theorem af_ast_eq (G : ai_G) (als : ai_L) (st : List ai_V) (aw : ai_W) (cs ss ty : Nat) (ok : ai_V → Bool) : af_ast G als st aw cs ss ty ok = ai_ast G als st aw cs ss ty ok := by
  unfold af_ast ai_ast
  simp only [fl_get_eq, fl_set_eq]
  congr 1
  funext v i a r
  congr 1
  cases hc : aw[a.2.1]? with
  | none => rfl
  | some c =>
    rcases c with q | ⟨t, n, d, ov⟩
    · rfl
    · dsimp only [Option.bind]
      congr 1
      cases h : (ai_one G i && ai_look d ov (ai_b G i).1.toNat == v) with
      | false => rfl
      | true =>
        rw [Bool.and_eq_true] at h
        have e : ai_wr G ty d ov i v = some (d, ov) := by
          unfold ai_wr
          rw [h.1, h.2]
          rfl
        rw [e]
        simp only [cond_true]
        rw [ai_set_self hc]
noncomputable def ah_iconst (n : Int) (md : ai_MD) (L : Nat) (en : ai_E) (G : ai_G) (als : ai_L) (st : List ai_V) (aw : ai_W) (cs ss : Nat) : Option ai_S := some (als, ai_lI (Int32.ofInt n).toInt :: st, aw, cs, ss)
noncomputable def ah_bipush (n : Int) (md : ai_MD) (L : Nat) (en : ai_E) (G : ai_G) (als : ai_L) (st : List ai_V) (aw : ai_W) (cs ss : Nat) : Option ai_S := some (als, ai_lI (Int8.ofInt n).toInt32.toInt :: st, aw, cs, ss)
noncomputable def ah_sipush (n : Int) (md : ai_MD) (L : Nat) (en : ai_E) (G : ai_G) (als : ai_L) (st : List ai_V) (aw : ai_W) (cs ss : Nat) : Option ai_S := some (als, ai_lI (Int16.ofInt n).toInt32.toInt :: st, aw, cs, ss)
noncomputable def ah_lconst (n : Fin 2) (md : ai_MD) (L : Nat) (en : ai_E) (G : ai_G) (als : ai_L) (st : List ai_V) (aw : ai_W) (cs ss : Nat) : Option ai_S := some (als, ai_lL (Int64.ofNat (n : Nat)).toInt :: st, aw, cs, ss)
noncomputable def ah_ldc (md : ai_MD) (L : Nat) (en : ai_E) (G : ai_G) (als : ai_L) (st : List ai_V) (aw : ai_W) (cs ss : Nat) : Option ai_S := some (als, ai_lI (Int32.ofInt en.2.2.2.2.2.2).toInt :: st, aw, cs, ss)
noncomputable def ah_ldc_w (md : ai_MD) (L : Nat) (en : ai_E) (G : ai_G) (als : ai_L) (st : List ai_V) (aw : ai_W) (cs ss : Nat) : Option ai_S := some (als, ai_lI (Int32.ofInt en.2.2.2.2.2.2).toInt :: st, aw, cs, ss)
noncomputable def ah_ldc2_w (md : ai_MD) (L : Nat) (en : ai_E) (G : ai_G) (als : ai_L) (st : List ai_V) (aw : ai_W) (cs ss : Nat) : Option ai_S := some (als, ai_lL (Int64.ofInt en.2.2.2.2.2.2).toInt :: st, aw, cs, ss)
noncomputable def ah_iload (i : Nat) (md : ai_MD) (L : Nat) (en : ai_E) (G : ai_G) (als : ai_L) (st : List ai_V) (aw : ai_W) (cs ss : Nat) : Option ai_S := af_load als st aw cs ss i ai_isI
noncomputable def ah_iload_n (k : Fin 4) (md : ai_MD) (L : Nat) (en : ai_E) (G : ai_G) (als : ai_L) (st : List ai_V) (aw : ai_W) (cs ss : Nat) : Option ai_S := af_load als st aw cs ss (k : Nat) ai_isI
noncomputable def ah_lload (i : Nat) (md : ai_MD) (L : Nat) (en : ai_E) (G : ai_G) (als : ai_L) (st : List ai_V) (aw : ai_W) (cs ss : Nat) : Option ai_S := af_load als st aw cs ss i ai_isL
noncomputable def ah_lload_n (k : Fin 4) (md : ai_MD) (L : Nat) (en : ai_E) (G : ai_G) (als : ai_L) (st : List ai_V) (aw : ai_W) (cs ss : Nat) : Option ai_S := af_load als st aw cs ss (k : Nat) ai_isL
noncomputable def ah_aload (i : Nat) (md : ai_MD) (L : Nat) (en : ai_E) (G : ai_G) (als : ai_L) (st : List ai_V) (aw : ai_W) (cs ss : Nat) : Option ai_S := af_load als st aw cs ss i (fun v => ai_isR v || v.1 == 7)
noncomputable def ah_aload_n (k : Fin 4) (md : ai_MD) (L : Nat) (en : ai_E) (G : ai_G) (als : ai_L) (st : List ai_V) (aw : ai_W) (cs ss : Nat) : Option ai_S := af_load als st aw cs ss (k : Nat) (fun v => ai_isR v || v.1 == 7)
noncomputable def ah_istore (i : Nat) (md : ai_MD) (L : Nat) (en : ai_E) (G : ai_G) (als : ai_L) (st : List ai_V) (aw : ai_W) (cs ss : Nat) : Option ai_S := af_sto als st aw cs ss i md.2.2.2.1 ai_isI
noncomputable def ah_istore_n (k : Fin 4) (md : ai_MD) (L : Nat) (en : ai_E) (G : ai_G) (als : ai_L) (st : List ai_V) (aw : ai_W) (cs ss : Nat) : Option ai_S := af_sto als st aw cs ss (k : Nat) md.2.2.2.1 ai_isI
noncomputable def ah_astore (i : Nat) (md : ai_MD) (L : Nat) (en : ai_E) (G : ai_G) (als : ai_L) (st : List ai_V) (aw : ai_W) (cs ss : Nat) : Option ai_S := af_sto als st aw cs ss i md.2.2.2.1 ai_isR
noncomputable def ah_astore_n (k : Fin 4) (md : ai_MD) (L : Nat) (en : ai_E) (G : ai_G) (als : ai_L) (st : List ai_V) (aw : ai_W) (cs ss : Nat) : Option ai_S := af_sto als st aw cs ss (k : Nat) md.2.2.2.1 ai_isR
noncomputable def ah_lstore (i : Nat) (md : ai_MD) (L : Nat) (en : ai_E) (G : ai_G) (als : ai_L) (st : List ai_V) (aw : ai_W) (cs ss : Nat) : Option ai_S := af_sto2 als st aw cs ss i md.2.2.2.1
noncomputable def ah_lstore_n (k : Fin 4) (md : ai_MD) (L : Nat) (en : ai_E) (G : ai_G) (als : ai_L) (st : List ai_V) (aw : ai_W) (cs ss : Nat) : Option ai_S := af_sto2 als st aw cs ss (k : Nat) md.2.2.2.1
noncomputable def ah_iinc (i : Nat) (n : Int) (md : ai_MD) (L : Nat) (en : ai_E) (G : ai_G) (als : ai_L) (st : List ai_V) (aw : ai_W) (cs ss : Nat) : Option ai_S := (fl_lk als i).bind fun v => ai_gd (ai_isI v && decide (i < md.2.2.2.1)) (fl_flt als (fp_1 i) (fun t => some ((i, (ai_or (ai_adA 2 (-2147483648) 2147483647 G v (Int32.ofInt n).toInt) (ai_mI ((ai_b G v).1 + (Int32.ofInt n).toInt) ((ai_b G v).2 + (Int32.ofInt n).toInt)))) :: t, st, aw, cs, ss)))
noncomputable def ah_iadd (md : ai_MD) (L : Nat) (en : ai_E) (G : ai_G) (als : ai_L) (st : List ai_V) (aw : ai_W) (cs ss : Nat) : Option ai_S := ai_b2 L .iadd G als st aw cs ss
noncomputable def ah_isub (md : ai_MD) (L : Nat) (en : ai_E) (G : ai_G) (als : ai_L) (st : List ai_V) (aw : ai_W) (cs ss : Nat) : Option ai_S := ai_b2 L .isub G als st aw cs ss
noncomputable def ah_imul (md : ai_MD) (L : Nat) (en : ai_E) (G : ai_G) (als : ai_L) (st : List ai_V) (aw : ai_W) (cs ss : Nat) : Option ai_S := ai_b2 L .imul G als st aw cs ss
noncomputable def ah_iand (md : ai_MD) (L : Nat) (en : ai_E) (G : ai_G) (als : ai_L) (st : List ai_V) (aw : ai_W) (cs ss : Nat) : Option ai_S := ai_b2 L .iand G als st aw cs ss
noncomputable def ah_ior (md : ai_MD) (L : Nat) (en : ai_E) (G : ai_G) (als : ai_L) (st : List ai_V) (aw : ai_W) (cs ss : Nat) : Option ai_S := ai_b2 L .ior G als st aw cs ss
noncomputable def ah_ixor (md : ai_MD) (L : Nat) (en : ai_E) (G : ai_G) (als : ai_L) (st : List ai_V) (aw : ai_W) (cs ss : Nat) : Option ai_S := ai_b2 L .ixor G als st aw cs ss
noncomputable def ah_ishl (md : ai_MD) (L : Nat) (en : ai_E) (G : ai_G) (als : ai_L) (st : List ai_V) (aw : ai_W) (cs ss : Nat) : Option ai_S := ai_b2 L .ishl G als st aw cs ss
noncomputable def ah_ishr (md : ai_MD) (L : Nat) (en : ai_E) (G : ai_G) (als : ai_L) (st : List ai_V) (aw : ai_W) (cs ss : Nat) : Option ai_S := ai_b2 L .ishr G als st aw cs ss
noncomputable def ah_iushr (md : ai_MD) (L : Nat) (en : ai_E) (G : ai_G) (als : ai_L) (st : List ai_V) (aw : ai_W) (cs ss : Nat) : Option ai_S := ai_b2 L .iushr G als st aw cs ss
noncomputable def ah_idiv (md : ai_MD) (L : Nat) (en : ai_E) (G : ai_G) (als : ai_L) (st : List ai_V) (aw : ai_W) (cs ss : Nat) : Option ai_S := ai_b2 L .idiv G als st aw cs ss
noncomputable def ah_irem (md : ai_MD) (L : Nat) (en : ai_E) (G : ai_G) (als : ai_L) (st : List ai_V) (aw : ai_W) (cs ss : Nat) : Option ai_S := ai_b2 L .irem G als st aw cs ss
noncomputable def ah_ladd (md : ai_MD) (L : Nat) (en : ai_E) (G : ai_G) (als : ai_L) (st : List ai_V) (aw : ai_W) (cs ss : Nat) : Option ai_S := ai_bl .ladd G als st aw cs ss
noncomputable def ah_lsub (md : ai_MD) (L : Nat) (en : ai_E) (G : ai_G) (als : ai_L) (st : List ai_V) (aw : ai_W) (cs ss : Nat) : Option ai_S := ai_bl .lsub G als st aw cs ss
noncomputable def ah_lmul (md : ai_MD) (L : Nat) (en : ai_E) (G : ai_G) (als : ai_L) (st : List ai_V) (aw : ai_W) (cs ss : Nat) : Option ai_S := ai_bl .lmul G als st aw cs ss
noncomputable def ah_ldiv (md : ai_MD) (L : Nat) (en : ai_E) (G : ai_G) (als : ai_L) (st : List ai_V) (aw : ai_W) (cs ss : Nat) : Option ai_S := ai_bl .ldiv G als st aw cs ss
noncomputable def ah_lrem (md : ai_MD) (L : Nat) (en : ai_E) (G : ai_G) (als : ai_L) (st : List ai_V) (aw : ai_W) (cs ss : Nat) : Option ai_S := ai_bl .lrem G als st aw cs ss
noncomputable def ah_i2l (md : ai_MD) (L : Nat) (en : ai_E) (G : ai_G) (als : ai_L) (st : List ai_V) (aw : ai_W) (cs ss : Nat) : Option ai_S := ai_p1 st fun a r => ai_gd (ai_isI a) (some (als, ai_i2l G a :: r, aw, cs, ss))
noncomputable def ah_l2i (md : ai_MD) (L : Nat) (en : ai_E) (G : ai_G) (als : ai_L) (st : List ai_V) (aw : ai_W) (cs ss : Nat) : Option ai_S := ai_p1 st fun a r => ai_gd (ai_isL a) (some (als, ai_l2i G a :: r, aw, cs, ss))
noncomputable def ah_ineg (md : ai_MD) (L : Nat) (en : ai_E) (G : ai_G) (als : ai_L) (st : List ai_V) (aw : ai_W) (cs ss : Nat) : Option ai_S := ai_p1 st fun a r => ai_gd (ai_isI a) (some (als, ai_mI (- (ai_b G a).2) (- (ai_b G a).1) :: r, aw, cs, ss))
noncomputable def ah_dup (md : ai_MD) (L : Nat) (en : ai_E) (G : ai_G) (als : ai_L) (st : List ai_V) (aw : ai_W) (cs ss : Nat) : Option ai_S := ai_p1 st fun a r => ai_gd (ai_cat a == 1) (some (als, a :: a :: r, aw, cs, ss))
noncomputable def ah_pop (md : ai_MD) (L : Nat) (en : ai_E) (G : ai_G) (als : ai_L) (st : List ai_V) (aw : ai_W) (cs ss : Nat) : Option ai_S := ai_p1 st fun a r => ai_gd (ai_cat a == 1) (some (als, r, aw, cs, ss))
noncomputable def ah_dup2 (md : ai_MD) (L : Nat) (en : ai_E) (G : ai_G) (als : ai_L) (st : List ai_V) (aw : ai_W) (cs ss : Nat) : Option ai_S := ai_p2 st fun a b r => ai_gd (ai_cat a == 1 && ai_cat b == 1) (some (als, a :: b :: a :: b :: r, aw, cs, ss))
noncomputable def ah_putfield (md : ai_MD) (L : Nat) (en : ai_E) (G : ai_G) (als : ai_L) (st : List ai_V) (aw : ai_W) (cs ss : Nat) : Option ai_S := ai_p2 st fun v a r => ai_gd (ai_isR a && ai_fit G (ai_ty en.2.2.2.1 en.2.2.2.2.1) v) ((fl_get aw a.2.1).bind fun c => match c with
    | .inl (ci, fs) => ai_gd (ci == en.2.2.2.1 && decide (en.2.2.2.2.1 < fs.length)) (bif fl_get fs en.2.2.2.2.1 == some v then some (als, r, aw, cs, ss) else fl_set fs en.2.2.2.2.1 v (fun fs' => fl_set aw a.2.1 (.inl (ci, fs')) (fun aw' => some (als, r, aw', cs, ss))))
    | .inr _ => none)
noncomputable def ah_iaload (md : ai_MD) (L : Nat) (en : ai_E) (G : ai_G) (als : ai_L) (st : List ai_V) (aw : ai_W) (cs ss : Nat) : Option ai_S := ai_p2 st fun i a r => ai_gd (a.1 == 7 && (md.2.2.2.2.2.2.2 == 3 && (i.1 == 0 && (decide (i.2.2.1 = i.2.2.2) && (decide (0 ≤ i.2.2.1) && decide (i.2.2.1 < (L : Int))))))) (some (als, ((2, i.2.2.1.toNat, 0, 1) : ai_V) :: r, aw, cs, ss))
noncomputable def ah_iastore (md : ai_MD) (L : Nat) (en : ai_E) (G : ai_G) (als : ai_L) (st : List ai_V) (aw : ai_W) (cs ss : Nat) : Option ai_S := af_ast G als st aw cs ss 0 ai_isI
noncomputable def ah_lastore (md : ai_MD) (L : Nat) (en : ai_E) (G : ai_G) (als : ai_L) (st : List ai_V) (aw : ai_W) (cs ss : Nat) : Option ai_S := af_ast G als st aw cs ss 1 ai_isL
noncomputable def ah_bastore (md : ai_MD) (L : Nat) (en : ai_E) (G : ai_G) (als : ai_L) (st : List ai_V) (aw : ai_W) (cs ss : Nat) : Option ai_S := af_ast G als st aw cs ss 2 (ai_fit G .boolean)
noncomputable def ah_aastore (md : ai_MD) (L : Nat) (en : ai_E) (G : ai_G) (als : ai_L) (st : List ai_V) (aw : ai_W) (cs ss : Nat) : Option ai_S := af_ast G als st aw cs ss 3 (fun v => ai_isR v && (match aw[v.2.1]? with
    | some (.inl (ci, _)) => ci == 2
    | _ => false))
noncomputable def ah_arraylength (md : ai_MD) (L : Nat) (en : ai_E) (G : ai_G) (als : ai_L) (st : List ai_V) (aw : ai_W) (cs ss : Nat) : Option ai_S := ai_p1 st fun a r => bif a.1 == 7 && md.2.2.2.2.2.2.2 == 3 then some (als, ai_lI (Int32.ofNat L).toInt :: r, aw, cs, ss) else ai_gd (ai_isR a) ((fl_get aw a.2.1).bind fun c => match c with
    | .inr (_, n, _, _) => some (als, ai_lI (Int32.ofNat n).toInt :: r, aw, cs, ss)
    | .inl _ => none)
noncomputable def ah_new (md : ai_MD) (L : Nat) (en : ai_E) (G : ai_G) (als : ai_L) (st : List ai_V) (aw : ai_W) (cs ss : Nat) : Option ai_S := (vwCl[en.2.2.2.1]?).bind fun q => ai_gd ((List.range q.2.2).all (fun k => ai_okt (ai_ty en.2.2.2.1 k)) && (decide (cs + 1 ≤ md.2.2.2.2.2.2.1.cells) && decide (ss + q.2.2 ≤ md.2.2.2.2.2.2.1.slots))) (fl_app aw (.inl (en.2.2.2.1, (List.range q.2.2).map fun k => ai_dv (ai_ty en.2.2.2.1 k))) (fun aw' => some (als, ((4, aw.length, 0, 0) : ai_V) :: st, aw', cs + 1, ss + q.2.2)))
noncomputable def ah_newarray (t : ArrayType) (md : ai_MD) (L : Nat) (en : ai_E) (G : ai_G) (als : ai_L) (st : List ai_V) (aw : ai_W) (cs ss : Nat) : Option ai_S := (ai_ak t).bind fun ty => ai_p1 st fun n r => ai_gd (n.1 == 0 && (decide (n.2.2.1 = n.2.2.2) && (decide (0 ≤ n.2.2.1) && (decide (n.2.2.1 ≤ 60000000) && (decide (cs + 1 ≤ md.2.2.2.2.2.2.1.cells) && decide (ss + n.2.2.1.toNat ≤ md.2.2.2.2.2.2.1.slots)))))) (fl_app aw (.inr (ty, n.2.2.1.toNat, (bif ty == 1 then ai_lL 0 else ai_lI 0), [])) (fun aw' => some (als, ((4, aw.length, 0, 0) : ai_V) :: r, aw', cs + 1, ss + n.2.2.1.toNat)))
noncomputable def ah_anewarray (md : ai_MD) (L : Nat) (en : ai_E) (G : ai_G) (als : ai_L) (st : List ai_V) (aw : ai_W) (cs ss : Nat) : Option ai_S := ai_p1 st fun n r => ai_gd (n.1 == 0 && (decide (n.2.2.1 = n.2.2.2) && (decide (0 ≤ n.2.2.1) && (decide (n.2.2.1 ≤ 60000000) && (decide (cs + 1 ≤ md.2.2.2.2.2.2.1.cells) && decide (ss + n.2.2.1.toNat ≤ md.2.2.2.2.2.2.1.slots)))))) (fl_app aw (.inr (3, n.2.2.1.toNat, (5, 0, 0, 0), [])) (fun aw' => some (als, ((4, aw.length, 0, 0) : ai_V) :: r, aw', cs + 1, ss + n.2.2.1.toNat)))
noncomputable def ah_invokestatic (md : ai_MD) (L : Nat) (en : ai_E) (G : ai_G) (als : ai_L) (st : List ai_V) (aw : ai_W) (cs ss : Nat) : Option ai_S := ai_gd (en.2.2.2.1 == 997) (ai_cpy md G als st aw cs ss)
noncomputable def ah_invokespecial (md : ai_MD) (L : Nat) (en : ai_E) (G : ai_G) (als : ai_L) (st : List ai_V) (aw : ai_W) (cs ss : Nat) : Option ai_S := ai_gd (en.2.2.2.1 == 999) (ai_p1 st fun a r => ai_gd (ai_isR a && (decide (1 ≤ md.2.2.2.2.2.2.1.frames) && decide ((r.map ai_cat).sum + 12 ≤ md.2.2.2.2.2.2.1.locals))) (some (als, r, aw, cs, ss)))
theorem ah_iload_eq (i : Nat) (md : ai_MD) (L pc len na nb ni : Nat) (nz : Int) (G : ai_G) (als : ai_L) (st : List ai_V) (aw : ai_W) (cs ss : Nat) : ah_iload i md L (pc, (.iload i), len, na, nb, ni, nz) G als st aw cs ss = ai_simp md L (pc, (.iload i), len, na, nb, ni, nz) G als st aw cs ss := by
  unfold ah_iload ai_simp
  dsimp only
  first | (simp only [fl_get_eq, fl_set_eq, fl_flt_eq, fl_app_eq, fl_lk_eq, af_load_eq, af_sto_eq, af_sto2_eq, af_ald_eq, af_ast_eq]; done) | (simp only [fl_get_eq, fl_set_eq, fl_flt_eq, fl_app_eq, fl_lk_eq, af_load_eq, af_sto_eq, af_sto2_eq, af_ald_eq, af_ast_eq]; rfl)
theorem ah_iload_n_eq (k : Fin 4) (md : ai_MD) (L pc len na nb ni : Nat) (nz : Int) (G : ai_G) (als : ai_L) (st : List ai_V) (aw : ai_W) (cs ss : Nat) : ah_iload_n k md L (pc, (.iload_n k), len, na, nb, ni, nz) G als st aw cs ss = ai_simp md L (pc, (.iload_n k), len, na, nb, ni, nz) G als st aw cs ss := by
  unfold ah_iload_n ai_simp
  dsimp only
  first | (simp only [fl_get_eq, fl_set_eq, fl_flt_eq, fl_app_eq, fl_lk_eq, af_load_eq, af_sto_eq, af_sto2_eq, af_ald_eq, af_ast_eq]; done) | (simp only [fl_get_eq, fl_set_eq, fl_flt_eq, fl_app_eq, fl_lk_eq, af_load_eq, af_sto_eq, af_sto2_eq, af_ald_eq, af_ast_eq]; rfl)
theorem ah_lload_eq (i : Nat) (md : ai_MD) (L pc len na nb ni : Nat) (nz : Int) (G : ai_G) (als : ai_L) (st : List ai_V) (aw : ai_W) (cs ss : Nat) : ah_lload i md L (pc, (.lload i), len, na, nb, ni, nz) G als st aw cs ss = ai_simp md L (pc, (.lload i), len, na, nb, ni, nz) G als st aw cs ss := by
  unfold ah_lload ai_simp
  dsimp only
  first | (simp only [fl_get_eq, fl_set_eq, fl_flt_eq, fl_app_eq, fl_lk_eq, af_load_eq, af_sto_eq, af_sto2_eq, af_ald_eq, af_ast_eq]; done) | (simp only [fl_get_eq, fl_set_eq, fl_flt_eq, fl_app_eq, fl_lk_eq, af_load_eq, af_sto_eq, af_sto2_eq, af_ald_eq, af_ast_eq]; rfl)
theorem ah_lload_n_eq (k : Fin 4) (md : ai_MD) (L pc len na nb ni : Nat) (nz : Int) (G : ai_G) (als : ai_L) (st : List ai_V) (aw : ai_W) (cs ss : Nat) : ah_lload_n k md L (pc, (.lload_n k), len, na, nb, ni, nz) G als st aw cs ss = ai_simp md L (pc, (.lload_n k), len, na, nb, ni, nz) G als st aw cs ss := by
  unfold ah_lload_n ai_simp
  dsimp only
  first | (simp only [fl_get_eq, fl_set_eq, fl_flt_eq, fl_app_eq, fl_lk_eq, af_load_eq, af_sto_eq, af_sto2_eq, af_ald_eq, af_ast_eq]; done) | (simp only [fl_get_eq, fl_set_eq, fl_flt_eq, fl_app_eq, fl_lk_eq, af_load_eq, af_sto_eq, af_sto2_eq, af_ald_eq, af_ast_eq]; rfl)
theorem ah_aload_eq (i : Nat) (md : ai_MD) (L pc len na nb ni : Nat) (nz : Int) (G : ai_G) (als : ai_L) (st : List ai_V) (aw : ai_W) (cs ss : Nat) : ah_aload i md L (pc, (.aload i), len, na, nb, ni, nz) G als st aw cs ss = ai_simp md L (pc, (.aload i), len, na, nb, ni, nz) G als st aw cs ss := by
  unfold ah_aload ai_simp
  dsimp only
  first | (simp only [fl_get_eq, fl_set_eq, fl_flt_eq, fl_app_eq, fl_lk_eq, af_load_eq, af_sto_eq, af_sto2_eq, af_ald_eq, af_ast_eq]; done) | (simp only [fl_get_eq, fl_set_eq, fl_flt_eq, fl_app_eq, fl_lk_eq, af_load_eq, af_sto_eq, af_sto2_eq, af_ald_eq, af_ast_eq]; rfl)
theorem ah_aload_n_eq (k : Fin 4) (md : ai_MD) (L pc len na nb ni : Nat) (nz : Int) (G : ai_G) (als : ai_L) (st : List ai_V) (aw : ai_W) (cs ss : Nat) : ah_aload_n k md L (pc, (.aload_n k), len, na, nb, ni, nz) G als st aw cs ss = ai_simp md L (pc, (.aload_n k), len, na, nb, ni, nz) G als st aw cs ss := by
  unfold ah_aload_n ai_simp
  dsimp only
  first | (simp only [fl_get_eq, fl_set_eq, fl_flt_eq, fl_app_eq, fl_lk_eq, af_load_eq, af_sto_eq, af_sto2_eq, af_ald_eq, af_ast_eq]; done) | (simp only [fl_get_eq, fl_set_eq, fl_flt_eq, fl_app_eq, fl_lk_eq, af_load_eq, af_sto_eq, af_sto2_eq, af_ald_eq, af_ast_eq]; rfl)
theorem ah_istore_eq (i : Nat) (md : ai_MD) (L pc len na nb ni : Nat) (nz : Int) (G : ai_G) (als : ai_L) (st : List ai_V) (aw : ai_W) (cs ss : Nat) : ah_istore i md L (pc, (.istore i), len, na, nb, ni, nz) G als st aw cs ss = ai_simp md L (pc, (.istore i), len, na, nb, ni, nz) G als st aw cs ss := by
  unfold ah_istore ai_simp
  dsimp only
  first | (simp only [fl_get_eq, fl_set_eq, fl_flt_eq, fl_app_eq, fl_lk_eq, af_load_eq, af_sto_eq, af_sto2_eq, af_ald_eq, af_ast_eq]; done) | (simp only [fl_get_eq, fl_set_eq, fl_flt_eq, fl_app_eq, fl_lk_eq, af_load_eq, af_sto_eq, af_sto2_eq, af_ald_eq, af_ast_eq]; rfl)
theorem ah_istore_n_eq (k : Fin 4) (md : ai_MD) (L pc len na nb ni : Nat) (nz : Int) (G : ai_G) (als : ai_L) (st : List ai_V) (aw : ai_W) (cs ss : Nat) : ah_istore_n k md L (pc, (.istore_n k), len, na, nb, ni, nz) G als st aw cs ss = ai_simp md L (pc, (.istore_n k), len, na, nb, ni, nz) G als st aw cs ss := by
  unfold ah_istore_n ai_simp
  dsimp only
  first | (simp only [fl_get_eq, fl_set_eq, fl_flt_eq, fl_app_eq, fl_lk_eq, af_load_eq, af_sto_eq, af_sto2_eq, af_ald_eq, af_ast_eq]; done) | (simp only [fl_get_eq, fl_set_eq, fl_flt_eq, fl_app_eq, fl_lk_eq, af_load_eq, af_sto_eq, af_sto2_eq, af_ald_eq, af_ast_eq]; rfl)
theorem ah_astore_eq (i : Nat) (md : ai_MD) (L pc len na nb ni : Nat) (nz : Int) (G : ai_G) (als : ai_L) (st : List ai_V) (aw : ai_W) (cs ss : Nat) : ah_astore i md L (pc, (.astore i), len, na, nb, ni, nz) G als st aw cs ss = ai_simp md L (pc, (.astore i), len, na, nb, ni, nz) G als st aw cs ss := by
  unfold ah_astore ai_simp
  dsimp only
  first | (simp only [fl_get_eq, fl_set_eq, fl_flt_eq, fl_app_eq, fl_lk_eq, af_load_eq, af_sto_eq, af_sto2_eq, af_ald_eq, af_ast_eq]; done) | (simp only [fl_get_eq, fl_set_eq, fl_flt_eq, fl_app_eq, fl_lk_eq, af_load_eq, af_sto_eq, af_sto2_eq, af_ald_eq, af_ast_eq]; rfl)
theorem ah_astore_n_eq (k : Fin 4) (md : ai_MD) (L pc len na nb ni : Nat) (nz : Int) (G : ai_G) (als : ai_L) (st : List ai_V) (aw : ai_W) (cs ss : Nat) : ah_astore_n k md L (pc, (.astore_n k), len, na, nb, ni, nz) G als st aw cs ss = ai_simp md L (pc, (.astore_n k), len, na, nb, ni, nz) G als st aw cs ss := by
  unfold ah_astore_n ai_simp
  dsimp only
  first | (simp only [fl_get_eq, fl_set_eq, fl_flt_eq, fl_app_eq, fl_lk_eq, af_load_eq, af_sto_eq, af_sto2_eq, af_ald_eq, af_ast_eq]; done) | (simp only [fl_get_eq, fl_set_eq, fl_flt_eq, fl_app_eq, fl_lk_eq, af_load_eq, af_sto_eq, af_sto2_eq, af_ald_eq, af_ast_eq]; rfl)
theorem ah_lstore_eq (i : Nat) (md : ai_MD) (L pc len na nb ni : Nat) (nz : Int) (G : ai_G) (als : ai_L) (st : List ai_V) (aw : ai_W) (cs ss : Nat) : ah_lstore i md L (pc, (.lstore i), len, na, nb, ni, nz) G als st aw cs ss = ai_simp md L (pc, (.lstore i), len, na, nb, ni, nz) G als st aw cs ss := by
  unfold ah_lstore ai_simp
  dsimp only
  first | (simp only [fl_get_eq, fl_set_eq, fl_flt_eq, fl_app_eq, fl_lk_eq, af_load_eq, af_sto_eq, af_sto2_eq, af_ald_eq, af_ast_eq]; done) | (simp only [fl_get_eq, fl_set_eq, fl_flt_eq, fl_app_eq, fl_lk_eq, af_load_eq, af_sto_eq, af_sto2_eq, af_ald_eq, af_ast_eq]; rfl)
theorem ah_lstore_n_eq (k : Fin 4) (md : ai_MD) (L pc len na nb ni : Nat) (nz : Int) (G : ai_G) (als : ai_L) (st : List ai_V) (aw : ai_W) (cs ss : Nat) : ah_lstore_n k md L (pc, (.lstore_n k), len, na, nb, ni, nz) G als st aw cs ss = ai_simp md L (pc, (.lstore_n k), len, na, nb, ni, nz) G als st aw cs ss := by
  unfold ah_lstore_n ai_simp
  dsimp only
  first | (simp only [fl_get_eq, fl_set_eq, fl_flt_eq, fl_app_eq, fl_lk_eq, af_load_eq, af_sto_eq, af_sto2_eq, af_ald_eq, af_ast_eq]; done) | (simp only [fl_get_eq, fl_set_eq, fl_flt_eq, fl_app_eq, fl_lk_eq, af_load_eq, af_sto_eq, af_sto2_eq, af_ald_eq, af_ast_eq]; rfl)
theorem ah_iinc_eq (i : Nat) (n : Int) (md : ai_MD) (L pc len na nb ni : Nat) (nz : Int) (G : ai_G) (als : ai_L) (st : List ai_V) (aw : ai_W) (cs ss : Nat) : ah_iinc i n md L (pc, (.iinc i n), len, na, nb, ni, nz) G als st aw cs ss = ai_simp md L (pc, (.iinc i n), len, na, nb, ni, nz) G als st aw cs ss := by
  unfold ah_iinc ai_simp
  dsimp only
  first | (simp only [fl_get_eq, fl_set_eq, fl_flt_eq, fl_app_eq, fl_lk_eq, af_load_eq, af_sto_eq, af_sto2_eq, af_ald_eq, af_ast_eq]; done) | (simp only [fl_get_eq, fl_set_eq, fl_flt_eq, fl_app_eq, fl_lk_eq, af_load_eq, af_sto_eq, af_sto2_eq, af_ald_eq, af_ast_eq]; rfl)
theorem ah_putfield_eq (i : Nat) (md : ai_MD) (L pc len na nb ni : Nat) (nz : Int) (G : ai_G) (als : ai_L) (st : List ai_V) (aw : ai_W) (cs ss : Nat) : ah_putfield md L (pc, (.putfield i), len, na, nb, ni, nz) G als st aw cs ss = ai_simp md L (pc, (.putfield i), len, na, nb, ni, nz) G als st aw cs ss := by
  unfold ah_putfield ai_simp
  dsimp only
  simp only [fl_get_eq, fl_set_eq]
  congr 1
  funext v a r
  congr 1
  cases hc : aw[a.2.1]? with
  | none => rfl
  | some c =>
    rcases c with ⟨ci, fs⟩ | q
    · dsimp only [Option.bind]
      congr 1
      cases h : (fs[nb]? == some v) with
      | false => rfl
      | true =>
        have e : fs[nb]? = some v := by simpa using h
        simp only [cond_true]
        rw [ai_set_self e, ai_set_self hc]
    · rfl
theorem ah_iastore_eq  (md : ai_MD) (L pc len na nb ni : Nat) (nz : Int) (G : ai_G) (als : ai_L) (st : List ai_V) (aw : ai_W) (cs ss : Nat) : ah_iastore md L (pc, .iastore, len, na, nb, ni, nz) G als st aw cs ss = ai_simp md L (pc, .iastore, len, na, nb, ni, nz) G als st aw cs ss := by
  unfold ah_iastore ai_simp
  dsimp only
  first | (simp only [fl_get_eq, fl_set_eq, fl_flt_eq, fl_app_eq, fl_lk_eq, af_load_eq, af_sto_eq, af_sto2_eq, af_ald_eq, af_ast_eq]; done) | (simp only [fl_get_eq, fl_set_eq, fl_flt_eq, fl_app_eq, fl_lk_eq, af_load_eq, af_sto_eq, af_sto2_eq, af_ald_eq, af_ast_eq]; rfl)
theorem ah_lastore_eq  (md : ai_MD) (L pc len na nb ni : Nat) (nz : Int) (G : ai_G) (als : ai_L) (st : List ai_V) (aw : ai_W) (cs ss : Nat) : ah_lastore md L (pc, .lastore, len, na, nb, ni, nz) G als st aw cs ss = ai_simp md L (pc, .lastore, len, na, nb, ni, nz) G als st aw cs ss := by
  unfold ah_lastore ai_simp
  dsimp only
  first | (simp only [fl_get_eq, fl_set_eq, fl_flt_eq, fl_app_eq, fl_lk_eq, af_load_eq, af_sto_eq, af_sto2_eq, af_ald_eq, af_ast_eq]; done) | (simp only [fl_get_eq, fl_set_eq, fl_flt_eq, fl_app_eq, fl_lk_eq, af_load_eq, af_sto_eq, af_sto2_eq, af_ald_eq, af_ast_eq]; rfl)
theorem ah_bastore_eq  (md : ai_MD) (L pc len na nb ni : Nat) (nz : Int) (G : ai_G) (als : ai_L) (st : List ai_V) (aw : ai_W) (cs ss : Nat) : ah_bastore md L (pc, .bastore, len, na, nb, ni, nz) G als st aw cs ss = ai_simp md L (pc, .bastore, len, na, nb, ni, nz) G als st aw cs ss := by
  unfold ah_bastore ai_simp
  dsimp only
  first | (simp only [fl_get_eq, fl_set_eq, fl_flt_eq, fl_app_eq, fl_lk_eq, af_load_eq, af_sto_eq, af_sto2_eq, af_ald_eq, af_ast_eq]; done) | (simp only [fl_get_eq, fl_set_eq, fl_flt_eq, fl_app_eq, fl_lk_eq, af_load_eq, af_sto_eq, af_sto2_eq, af_ald_eq, af_ast_eq]; rfl)
theorem ah_aastore_eq  (md : ai_MD) (L pc len na nb ni : Nat) (nz : Int) (G : ai_G) (als : ai_L) (st : List ai_V) (aw : ai_W) (cs ss : Nat) : ah_aastore md L (pc, .aastore, len, na, nb, ni, nz) G als st aw cs ss = ai_simp md L (pc, .aastore, len, na, nb, ni, nz) G als st aw cs ss := by
  unfold ah_aastore ai_simp
  dsimp only
  first | (simp only [fl_get_eq, fl_set_eq, fl_flt_eq, fl_app_eq, fl_lk_eq, af_load_eq, af_sto_eq, af_sto2_eq, af_ald_eq, af_ast_eq]; done) | (simp only [fl_get_eq, fl_set_eq, fl_flt_eq, fl_app_eq, fl_lk_eq, af_load_eq, af_sto_eq, af_sto2_eq, af_ald_eq, af_ast_eq]; rfl)
theorem ah_arraylength_eq  (md : ai_MD) (L pc len na nb ni : Nat) (nz : Int) (G : ai_G) (als : ai_L) (st : List ai_V) (aw : ai_W) (cs ss : Nat) : ah_arraylength md L (pc, .arraylength, len, na, nb, ni, nz) G als st aw cs ss = ai_simp md L (pc, .arraylength, len, na, nb, ni, nz) G als st aw cs ss := by
  unfold ah_arraylength ai_simp
  dsimp only
  first | (simp only [fl_get_eq, fl_set_eq, fl_flt_eq, fl_app_eq, fl_lk_eq, af_load_eq, af_sto_eq, af_sto2_eq, af_ald_eq, af_ast_eq]; done) | (simp only [fl_get_eq, fl_set_eq, fl_flt_eq, fl_app_eq, fl_lk_eq, af_load_eq, af_sto_eq, af_sto2_eq, af_ald_eq, af_ast_eq]; rfl)
theorem ah_new_eq (i : Nat) (md : ai_MD) (L pc len na nb ni : Nat) (nz : Int) (G : ai_G) (als : ai_L) (st : List ai_V) (aw : ai_W) (cs ss : Nat) : ah_new md L (pc, (.new i), len, na, nb, ni, nz) G als st aw cs ss = ai_simp md L (pc, (.new i), len, na, nb, ni, nz) G als st aw cs ss := by
  unfold ah_new ai_simp
  dsimp only
  first | (simp only [fl_get_eq, fl_set_eq, fl_flt_eq, fl_app_eq, fl_lk_eq, af_load_eq, af_sto_eq, af_sto2_eq, af_ald_eq, af_ast_eq]; done) | (simp only [fl_get_eq, fl_set_eq, fl_flt_eq, fl_app_eq, fl_lk_eq, af_load_eq, af_sto_eq, af_sto2_eq, af_ald_eq, af_ast_eq]; rfl)
theorem ah_newarray_eq (t : ArrayType) (md : ai_MD) (L pc len na nb ni : Nat) (nz : Int) (G : ai_G) (als : ai_L) (st : List ai_V) (aw : ai_W) (cs ss : Nat) : ah_newarray t md L (pc, (.newarray t), len, na, nb, ni, nz) G als st aw cs ss = ai_simp md L (pc, (.newarray t), len, na, nb, ni, nz) G als st aw cs ss := by
  unfold ah_newarray ai_simp
  dsimp only
  first | (simp only [fl_get_eq, fl_set_eq, fl_flt_eq, fl_app_eq, fl_lk_eq, af_load_eq, af_sto_eq, af_sto2_eq, af_ald_eq, af_ast_eq]; done) | (simp only [fl_get_eq, fl_set_eq, fl_flt_eq, fl_app_eq, fl_lk_eq, af_load_eq, af_sto_eq, af_sto2_eq, af_ald_eq, af_ast_eq]; rfl)
theorem ah_anewarray_eq (i : Nat) (md : ai_MD) (L pc len na nb ni : Nat) (nz : Int) (G : ai_G) (als : ai_L) (st : List ai_V) (aw : ai_W) (cs ss : Nat) : ah_anewarray md L (pc, (.anewarray i), len, na, nb, ni, nz) G als st aw cs ss = ai_simp md L (pc, (.anewarray i), len, na, nb, ni, nz) G als st aw cs ss := by
  unfold ah_anewarray ai_simp
  dsimp only
  first | (simp only [fl_get_eq, fl_set_eq, fl_flt_eq, fl_app_eq, fl_lk_eq, af_load_eq, af_sto_eq, af_sto2_eq, af_ald_eq, af_ast_eq]; done) | (simp only [fl_get_eq, fl_set_eq, fl_flt_eq, fl_app_eq, fl_lk_eq, af_load_eq, af_sto_eq, af_sto2_eq, af_ald_eq, af_ast_eq]; rfl)
noncomputable def af_disp (ins : Instr) : ai_MD → Nat → ai_E → ai_G → ai_L → List ai_V → ai_W → Nat → Nat → Option ai_S := match ins with
  | .iconst n => ah_iconst n
  | .bipush n => ah_bipush n
  | .sipush n => ah_sipush n
  | .lconst n => ah_lconst n
  | .ldc _ => ah_ldc
  | .ldc_w _ => ah_ldc_w
  | .ldc2_w _ => ah_ldc2_w
  | .iload i => ah_iload i
  | .iload_n k => ah_iload_n k
  | .lload i => ah_lload i
  | .lload_n k => ah_lload_n k
  | .aload i => ah_aload i
  | .aload_n k => ah_aload_n k
  | .istore i => ah_istore i
  | .istore_n k => ah_istore_n k
  | .astore i => ah_astore i
  | .astore_n k => ah_astore_n k
  | .lstore i => ah_lstore i
  | .lstore_n k => ah_lstore_n k
  | .iinc i n => ah_iinc i n
  | .iadd => ah_iadd
  | .isub => ah_isub
  | .imul => ah_imul
  | .iand => ah_iand
  | .ior => ah_ior
  | .ixor => ah_ixor
  | .ishl => ah_ishl
  | .ishr => ah_ishr
  | .iushr => ah_iushr
  | .idiv => ah_idiv
  | .irem => ah_irem
  | .ladd => ah_ladd
  | .lsub => ah_lsub
  | .lmul => ah_lmul
  | .ldiv => ah_ldiv
  | .lrem => ah_lrem
  | .i2l => ah_i2l
  | .l2i => ah_l2i
  | .ineg => ah_ineg
  | .dup => ah_dup
  | .pop => ah_pop
  | .dup2 => ah_dup2
  | .putfield _ => ah_putfield
  | .iaload => ah_iaload
  | .iastore => ah_iastore
  | .lastore => ah_lastore
  | .bastore => ah_bastore
  | .aastore => ah_aastore
  | .arraylength => ah_arraylength
  | .new _ => ah_new
  | .newarray t => ah_newarray t
  | .anewarray _ => ah_anewarray
  | .invokestatic _ => ah_invokestatic
  | .invokespecial _ => ah_invokespecial
  | _ => fun _ _ _ _ _ _ _ _ _ => none
theorem af_disp_eq (md : ai_MD) (L : Nat) (en : ai_E) (G : ai_G) (als : ai_L) (st : List ai_V) (aw : ai_W) (cs ss : Nat) : af_disp en.2.1 md L en G als st aw cs ss = ai_simp md L en G als st aw cs ss := by
  obtain ⟨pc, ins, len, na, nb, ni, nz⟩ := en
  dsimp only
  cases ins with
  | iload i => exact ah_iload_eq i md L pc len na nb ni nz G als st aw cs ss
  | iload_n k => exact ah_iload_n_eq k md L pc len na nb ni nz G als st aw cs ss
  | lload i => exact ah_lload_eq i md L pc len na nb ni nz G als st aw cs ss
  | lload_n k => exact ah_lload_n_eq k md L pc len na nb ni nz G als st aw cs ss
  | aload i => exact ah_aload_eq i md L pc len na nb ni nz G als st aw cs ss
  | aload_n k => exact ah_aload_n_eq k md L pc len na nb ni nz G als st aw cs ss
  | istore i => exact ah_istore_eq i md L pc len na nb ni nz G als st aw cs ss
  | istore_n k => exact ah_istore_n_eq k md L pc len na nb ni nz G als st aw cs ss
  | astore i => exact ah_astore_eq i md L pc len na nb ni nz G als st aw cs ss
  | astore_n k => exact ah_astore_n_eq k md L pc len na nb ni nz G als st aw cs ss
  | lstore i => exact ah_lstore_eq i md L pc len na nb ni nz G als st aw cs ss
  | lstore_n k => exact ah_lstore_n_eq k md L pc len na nb ni nz G als st aw cs ss
  | iinc i n => exact ah_iinc_eq i n md L pc len na nb ni nz G als st aw cs ss
  | putfield i => exact ah_putfield_eq i md L pc len na nb ni nz G als st aw cs ss
  | iastore => exact ah_iastore_eq md L pc len na nb ni nz G als st aw cs ss
  | lastore => exact ah_lastore_eq md L pc len na nb ni nz G als st aw cs ss
  | bastore => exact ah_bastore_eq md L pc len na nb ni nz G als st aw cs ss
  | aastore => exact ah_aastore_eq md L pc len na nb ni nz G als st aw cs ss
  | arraylength => exact ah_arraylength_eq md L pc len na nb ni nz G als st aw cs ss
  | new i => exact ah_new_eq i md L pc len na nb ni nz G als st aw cs ss
  | newarray t => exact ah_newarray_eq t md L pc len na nb ni nz G als st aw cs ss
  | anewarray i => exact ah_anewarray_eq i md L pc len na nb ni nz G als st aw cs ss
  | _ => rfl
noncomputable def af_rcv (aw : ai_W) (a : ai_V) (ci : Nat) : Bool := ai_isR a && (match fl_get aw a.2.1 with
  | some (.inl (k, _)) => k == ci
  | _ => false)
theorem af_rcv_eq (aw : ai_W) (a : ai_V) (ci : Nat) : af_rcv aw a ci = ai_rcv aw a ci := by
  unfold af_rcv ai_rcv
  rw [fl_get_eq]
  rfl
noncomputable def af_gs {β : Type} (G : ai_G) (a : ai_V) (q : Int × Int) (f : ai_G → β) : β := Bool.rec (motive := fun _ => β) (f G) (match fl_get G a.2.1 with
  | some r => fl_set G a.2.1 (q.1 - a.2.2.1, q.2 - a.2.2.1, r.2.2) f
  | none => f G) (ai_tok a)
theorem af_gs_eq {β : Type} (G : ai_G) (a : ai_V) (q : Int × Int) (f : ai_G → β) : af_gs G a q f = f (ai_gs G a q) := by
  unfold af_gs ai_gs
  rw [fl_get_eq]
  cases ai_tok a with
  | false => rfl
  | true =>
    cases G[a.2.1]? with
    | none => rfl
    | some r => exact fl_set_eq _ _ _ _
noncomputable def af_ref2 {β : Type} (G : ai_G) (op : Nat) (a b : ai_V) (f : ai_G → β) : β := af_gs G a (ai_rf op (ai_b G a) (ai_b G b)) (fun G1 => af_gs G1 b (ai_rf (ai_fl op) (ai_b G b) (ai_b G a)) f)
theorem af_ref2_eq {β : Type} (G : ai_G) (op : Nat) (a b : ai_V) (f : ai_G → β) : af_ref2 G op a b f = f (ai_ref2 G op a b) := by
  unfold af_ref2 ai_ref2
  rw [af_gs_eq, af_gs_eq]
noncomputable def af_br (f : List ai_E → ai_G → ai_S → Option (List ai_O)) (op : Nat) (a b : ai_V) (tgt fall : List ai_E) (G : ai_G) (x : ai_S) : Option (List ai_O) := match ai_dc G op a b with
  | some true => f tgt G x
  | some false => f fall G x
  | none => ai_join (af_ref2 G op a b (fun G' => f tgt G' x)) (af_ref2 G (ai_ng op) a b (fun G' => f fall G' x))
theorem af_br_eq (f : List ai_E → ai_G → ai_S → Option (List ai_O)) (op : Nat) (a b : ai_V) (tgt fall : List ai_E) (G : ai_G) (x : ai_S) : af_br f op a b tgt fall G x = ai_br f op a b tgt fall G x := by
  unfold af_br ai_br
  rw [af_ref2_eq, af_ref2_eq]
  rfl
noncomputable def ac_goto (off : Int) (T : Nat → ai_MD) (B : Nat → Nat → List ai_E) (hk : ai_H) (jn : Nat → Option ai_Iv) (run : Nat → ai_G → List ai_V → ai_W → Option (List ai_O)) (f : List ai_E → ai_G → ai_S → Option (List ai_O)) (M : Nat) (en : ai_E) (rest : List ai_E) (G : ai_G) (x : ai_S) : Option (List ai_O) := f (B M ((en.1 : Int) + off).toNat) G x
noncomputable def ac_ifCond (q : Jvm.ClassFile.Cond) (off : Int) (T : Nat → ai_MD) (B : Nat → Nat → List ai_E) (hk : ai_H) (jn : Nat → Option ai_Iv) (run : Nat → ai_G → List ai_V → ai_W → Option (List ai_O)) (f : List ai_E → ai_G → ai_S → Option (List ai_O)) (M : Nat) (en : ai_E) (rest : List ai_E) (G : ai_G) (x : ai_S) : Option (List ai_O) := ai_p1 x.2.1 fun a r => ai_gd (ai_isI a) (af_br f (ai_op q) a (ai_lI 0) (B M ((en.1 : Int) + off).toNat) rest G (x.1, r, x.2.2))
noncomputable def ac_if_icmp (q : Jvm.ClassFile.Cond) (off : Int) (T : Nat → ai_MD) (B : Nat → Nat → List ai_E) (hk : ai_H) (jn : Nat → Option ai_Iv) (run : Nat → ai_G → List ai_V → ai_W → Option (List ai_O)) (f : List ai_E → ai_G → ai_S → Option (List ai_O)) (M : Nat) (en : ai_E) (rest : List ai_E) (G : ai_G) (x : ai_S) : Option (List ai_O) := ai_p2 x.2.1 fun b a r => ai_gd (ai_isI a && ai_isI b) (af_br f (ai_op q) a b (B M ((en.1 : Int) + off).toNat) rest G (x.1, r, x.2.2))
noncomputable def ac_lcmp (T : Nat → ai_MD) (B : Nat → Nat → List ai_E) (hk : ai_H) (jn : Nat → Option ai_Iv) (run : Nat → ai_G → List ai_V → ai_W → Option (List ai_O)) (f : List ai_E → ai_G → ai_S → Option (List ai_O)) (M : Nat) (en : ai_E) (rest : List ai_E) (G : ai_G) (x : ai_S) : Option (List ai_O) := match rest with
    | en2 :: rest2 => match en2.2.1 with
      | .ifCond q off => ai_p2 x.2.1 fun b a r => ai_gd (ai_isL a && ai_isL b) (af_br f (ai_op q) a b (B M ((en2.1 : Int) + off).toNat) rest2 G (x.1, r, x.2.2))
      | _ => none
    | [] => none
noncomputable def ac_ifnonnull (off : Int) (T : Nat → ai_MD) (B : Nat → Nat → List ai_E) (hk : ai_H) (jn : Nat → Option ai_Iv) (run : Nat → ai_G → List ai_V → ai_W → Option (List ai_O)) (f : List ai_E → ai_G → ai_S → Option (List ai_O)) (M : Nat) (en : ai_E) (rest : List ai_E) (G : ai_G) (x : ai_S) : Option (List ai_O) := ai_p1 x.2.1 fun a r => bif a.1 == 5 then f rest G (x.1, r, x.2.2) else ai_gd (ai_isR a) (f (B M ((en.1 : Int) + off).toNat) G (x.1, r, x.2.2))
noncomputable def ac_tableswitch (dflt : Int) (lo : Int) (hi : Int) (offs : Array Int) (T : Nat → ai_MD) (B : Nat → Nat → List ai_E) (hk : ai_H) (jn : Nat → Option ai_Iv) (run : Nat → ai_G → List ai_V → ai_W → Option (List ai_O)) (f : List ai_E → ai_G → ai_S → Option (List ai_O)) (M : Nat) (en : ai_E) (rest : List ai_E) (G : ai_G) (x : ai_S) : Option (List ai_O) := ai_p1 x.2.1 fun a r => ai_gd (ai_isI a && decide (offs.toList.length = (hi - lo + 1).toNat)) (ai_join (bif decide ((ai_b G a).1 < lo) then f (B M ((en.1 : Int) + dflt).toNat) (ai_ref2 G 2 a (ai_lI lo)) (x.1, r, x.2.2) else some []) (ai_join (bif decide (hi < (ai_b G a).2) then f (B M ((en.1 : Int) + dflt).toNat) (ai_ref2 G 4 a (ai_lI hi)) (x.1, r, x.2.2) else some []) (ai_swt (fun G' off => f (B M ((en.1 : Int) + off).toNat) G' (x.1, r, x.2.2)) G a lo offs.toList)))
noncomputable def ac_ireturn (T : Nat → ai_MD) (B : Nat → Nat → List ai_E) (hk : ai_H) (jn : Nat → Option ai_Iv) (run : Nat → ai_G → List ai_V → ai_W → Option (List ai_O)) (f : List ai_E → ai_G → ai_S → Option (List ai_O)) (M : Nat) (en : ai_E) (rest : List ai_E) (G : ai_G) (x : ai_S) : Option (List ai_O) := ai_gd (ai_retB (T M) en.2.1 G x.2.1 && (decide (x.2.2.2.1 ≤ (T M).2.2.2.2.2.2.1.cells) && decide (x.2.2.2.2 ≤ (T M).2.2.2.2.2.2.1.slots))) (some [(en.1, G, x)])
noncomputable def ac_lreturn (T : Nat → ai_MD) (B : Nat → Nat → List ai_E) (hk : ai_H) (jn : Nat → Option ai_Iv) (run : Nat → ai_G → List ai_V → ai_W → Option (List ai_O)) (f : List ai_E → ai_G → ai_S → Option (List ai_O)) (M : Nat) (en : ai_E) (rest : List ai_E) (G : ai_G) (x : ai_S) : Option (List ai_O) := ai_gd (ai_retB (T M) en.2.1 G x.2.1 && (decide (x.2.2.2.1 ≤ (T M).2.2.2.2.2.2.1.cells) && decide (x.2.2.2.2 ≤ (T M).2.2.2.2.2.2.1.slots))) (some [(en.1, G, x)])
noncomputable def ac_return (T : Nat → ai_MD) (B : Nat → Nat → List ai_E) (hk : ai_H) (jn : Nat → Option ai_Iv) (run : Nat → ai_G → List ai_V → ai_W → Option (List ai_O)) (f : List ai_E → ai_G → ai_S → Option (List ai_O)) (M : Nat) (en : ai_E) (rest : List ai_E) (G : ai_G) (x : ai_S) : Option (List ai_O) := ai_gd (ai_retB (T M) en.2.1 G x.2.1 && (decide (x.2.2.2.1 ≤ (T M).2.2.2.2.2.2.1.cells) && decide (x.2.2.2.2 ≤ (T M).2.2.2.2.2.2.1.slots))) (some [(en.1, G, x)])
noncomputable def ac_invokestatic (T : Nat → ai_MD) (B : Nat → Nat → List ai_E) (hk : ai_H) (jn : Nat → Option ai_Iv) (run : Nat → ai_G → List ai_V → ai_W → Option (List ai_O)) (f : List ai_E → ai_G → ai_S → Option (List ai_O)) (M : Nat) (en : ai_E) (rest : List ai_E) (G : ai_G) (x : ai_S) : Option (List ai_O) := ai_gd ((T en.2.2.2.1).2.2.2.2.2.2.2 == 1) (ai_call T hk jn run (f rest) M en.2.2.2.1 G x (T en.2.2.2.1).2.2.2.2.2.1)
noncomputable def ac_invokespecial (T : Nat → ai_MD) (B : Nat → Nat → List ai_E) (hk : ai_H) (jn : Nat → Option ai_Iv) (run : Nat → ai_G → List ai_V → ai_W → Option (List ai_O)) (f : List ai_E → ai_G → ai_S → Option (List ai_O)) (M : Nat) (en : ai_E) (rest : List ai_E) (G : ai_G) (x : ai_S) : Option (List ai_O) := ai_gd (!(en.2.2.2.1 == 999) && ((T en.2.2.2.1).2.2.2.2.2.2.2 == 2 && (match x.2.1.drop (T en.2.2.2.1).2.2.2.2.2.1 with
    | a :: _ => af_rcv x.2.2.1 a en.2.2.2.2.1
    | [] => false))) (ai_call T hk jn run (f rest) M en.2.2.2.1 G x ((T en.2.2.2.1).2.2.2.2.2.1 + 1))
noncomputable def ac_invokevirtual (T : Nat → ai_MD) (B : Nat → Nat → List ai_E) (hk : ai_H) (jn : Nat → Option ai_Iv) (run : Nat → ai_G → List ai_V → ai_W → Option (List ai_O)) (f : List ai_E → ai_G → ai_S → Option (List ai_O)) (M : Nat) (en : ai_E) (rest : List ai_E) (G : ai_G) (x : ai_S) : Option (List ai_O) := ai_gd ((T en.2.2.2.1).2.2.2.2.2.2.2 == 0 && (match x.2.1.drop (T en.2.2.2.1).2.2.2.2.2.1 with
    | a :: _ => af_rcv x.2.2.1 a en.2.2.2.2.1
    | [] => false)) (ai_call T hk jn run (f rest) M en.2.2.2.1 G x ((T en.2.2.2.1).2.2.2.2.2.1 + 1))
theorem ac_ifCond_eq (q : Jvm.ClassFile.Cond) (off : Int) (pc len na nb ni : Nat) (nz : Int) (T : Nat → ai_MD) (B : Nat → Nat → List ai_E) (hk : ai_H) (jn : Nat → Option ai_Iv) (run : Nat → ai_G → List ai_V → ai_W → Option (List ai_O)) (f : List ai_E → ai_G → ai_S → Option (List ai_O)) (M : Nat) (rest : List ai_E) (G : ai_G) (x : ai_S) : ac_ifCond q off T B hk jn run f M (pc, (.ifCond q off), len, na, nb, ni, nz) rest G x = ai_ctl T B hk jn run f M (pc, (.ifCond q off), len, na, nb, ni, nz) rest G x := by
  unfold ac_ifCond ai_ctl
  dsimp only
  first | (simp only [af_rcv_eq, af_br_eq]; done) | (simp only [af_rcv_eq, af_br_eq]; rfl)
theorem ac_if_icmp_eq (q : Jvm.ClassFile.Cond) (off : Int) (pc len na nb ni : Nat) (nz : Int) (T : Nat → ai_MD) (B : Nat → Nat → List ai_E) (hk : ai_H) (jn : Nat → Option ai_Iv) (run : Nat → ai_G → List ai_V → ai_W → Option (List ai_O)) (f : List ai_E → ai_G → ai_S → Option (List ai_O)) (M : Nat) (rest : List ai_E) (G : ai_G) (x : ai_S) : ac_if_icmp q off T B hk jn run f M (pc, (.if_icmp q off), len, na, nb, ni, nz) rest G x = ai_ctl T B hk jn run f M (pc, (.if_icmp q off), len, na, nb, ni, nz) rest G x := by
  unfold ac_if_icmp ai_ctl
  dsimp only
  first | (simp only [af_rcv_eq, af_br_eq]; done) | (simp only [af_rcv_eq, af_br_eq]; rfl)
theorem ac_lcmp_eq  (pc len na nb ni : Nat) (nz : Int) (T : Nat → ai_MD) (B : Nat → Nat → List ai_E) (hk : ai_H) (jn : Nat → Option ai_Iv) (run : Nat → ai_G → List ai_V → ai_W → Option (List ai_O)) (f : List ai_E → ai_G → ai_S → Option (List ai_O)) (M : Nat) (rest : List ai_E) (G : ai_G) (x : ai_S) : ac_lcmp T B hk jn run f M (pc, .lcmp, len, na, nb, ni, nz) rest G x = ai_ctl T B hk jn run f M (pc, .lcmp, len, na, nb, ni, nz) rest G x := by
  unfold ac_lcmp ai_ctl
  dsimp only
  first | (simp only [af_rcv_eq, af_br_eq]; done) | (simp only [af_rcv_eq, af_br_eq]; rfl)
theorem ac_invokespecial_eq (i : Nat) (pc len na nb ni : Nat) (nz : Int) (T : Nat → ai_MD) (B : Nat → Nat → List ai_E) (hk : ai_H) (jn : Nat → Option ai_Iv) (run : Nat → ai_G → List ai_V → ai_W → Option (List ai_O)) (f : List ai_E → ai_G → ai_S → Option (List ai_O)) (M : Nat) (rest : List ai_E) (G : ai_G) (x : ai_S) : ac_invokespecial T B hk jn run f M (pc, (.invokespecial i), len, na, nb, ni, nz) rest G x = ai_ctl T B hk jn run f M (pc, (.invokespecial i), len, na, nb, ni, nz) rest G x := by
  unfold ac_invokespecial ai_ctl
  dsimp only
  first | (simp only [af_rcv_eq, af_br_eq]; done) | (simp only [af_rcv_eq, af_br_eq]; rfl)
theorem ac_invokevirtual_eq (i : Nat) (pc len na nb ni : Nat) (nz : Int) (T : Nat → ai_MD) (B : Nat → Nat → List ai_E) (hk : ai_H) (jn : Nat → Option ai_Iv) (run : Nat → ai_G → List ai_V → ai_W → Option (List ai_O)) (f : List ai_E → ai_G → ai_S → Option (List ai_O)) (M : Nat) (rest : List ai_E) (G : ai_G) (x : ai_S) : ac_invokevirtual T B hk jn run f M (pc, (.invokevirtual i), len, na, nb, ni, nz) rest G x = ai_ctl T B hk jn run f M (pc, (.invokevirtual i), len, na, nb, ni, nz) rest G x := by
  unfold ac_invokevirtual ai_ctl
  dsimp only
  first | (simp only [af_rcv_eq, af_br_eq]; done) | (simp only [af_rcv_eq, af_br_eq]; rfl)
noncomputable def af_ctl (ins : Instr) : (Nat → ai_MD) → (Nat → Nat → List ai_E) → ai_H → (Nat → Option ai_Iv) → (Nat → ai_G → List ai_V → ai_W → Option (List ai_O)) → (List ai_E → ai_G → ai_S → Option (List ai_O)) → Nat → ai_E → List ai_E → ai_G → ai_S → Option (List ai_O) := match ins with
  | .goto off => ac_goto off
  | .ifCond q off => ac_ifCond q off
  | .if_icmp q off => ac_if_icmp q off
  | .lcmp => ac_lcmp
  | .ifnonnull off => ac_ifnonnull off
  | .tableswitch dflt lo hi offs => ac_tableswitch dflt lo hi offs
  | .ireturn => ac_ireturn
  | .lreturn => ac_lreturn
  | .return_ => ac_return
  | .invokestatic _ => ac_invokestatic
  | .invokespecial _ => ac_invokespecial
  | .invokevirtual _ => ac_invokevirtual
  | _ => fun _ _ _ _ _ _ _ _ _ _ _ => none
theorem af_ctl_eq (T : Nat → ai_MD) (B : Nat → Nat → List ai_E) (hk : ai_H) (jn : Nat → Option ai_Iv) (run : Nat → ai_G → List ai_V → ai_W → Option (List ai_O)) (f : List ai_E → ai_G → ai_S → Option (List ai_O)) (M : Nat) (en : ai_E) (rest : List ai_E) (G : ai_G) (x : ai_S) : af_ctl en.2.1 T B hk jn run f M en rest G x = ai_ctl T B hk jn run f M en rest G x := by
  obtain ⟨pc, ins, len, na, nb, ni, nz⟩ := en
  dsimp only
  cases ins with
  | ifCond q off => exact ac_ifCond_eq q off pc len na nb ni nz T B hk jn run f M rest G x
  | if_icmp q off => exact ac_if_icmp_eq q off pc len na nb ni nz T B hk jn run f M rest G x
  | lcmp => exact ac_lcmp_eq pc len na nb ni nz T B hk jn run f M rest G x
  | invokespecial i => exact ac_invokespecial_eq i pc len na nb ni nz T B hk jn run f M rest G x
  | invokevirtual i => exact ac_invokevirtual_eq i pc len na nb ni nz T B hk jn run f M rest G x
  | _ => rfl
theorem ai_ex_succ (T : Nat → ai_MD) (B : Nat → Nat → List ai_E) (hk : ai_H) (N : ai_Ns) (L n M : Nat) (stops : List Nat) (en : ai_E) (rest : List ai_E) (G : ai_G) (x : ai_S) : ai_ex T B hk N L (n + 1) M stops (en :: rest) G x = (match ai_simp (T M) L en G x.1 x.2.1 x.2.2.1 x.2.2.2.1 x.2.2.2.2 with
      | some y => ai_to (ai_ex T B hk N L n M) (B M) (N.1 M) (N.2.1 M) stops rest G y
      | none => match ai_rdm en G x.1 x.2.1 x.2.2.1 x.2.2.2.1 x.2.2.2.2 with
        | some y => ai_to (ai_ex T B hk N L n M) (B M) (N.1 M) (N.2.1 M) stops rest y.1 y.2
        | none => ai_ctl T B hk N.2.2 (fun K G as aw => ai_ex T B hk N L n K [] (B K 0) G (ai_arg 0 as, [], aw, 0, 0)) (ai_to (ai_ex T B hk N L n M) (B M) (N.1 M) (N.2.1 M) stops) M en rest G x) := rfl
noncomputable def af_step (T : Nat → ai_MD) (B : Nat → Nat → List ai_E) (hk : ai_H) (N : ai_Ns) (L : Nat) (ih : Nat → List Nat → List ai_E → ai_G → ai_S → Option (List ai_O)) (M : Nat) (stops : List Nat) (code : List ai_E) (G : ai_G) (x : ai_S) : Option (List ai_O) := match code with
  | [] => none
  | en :: rest => match af_disp en.2.1 (T M) L en G x.1 x.2.1 x.2.2.1 x.2.2.2.1 x.2.2.2.2 with
    | some y => ai_to (ih M) (B M) (N.1 M) (N.2.1 M) stops rest G y
    | none => match af_rdm en.2.1 en G x.1 x.2.1 x.2.2.1 x.2.2.2.1 x.2.2.2.2 with
      | some y => ai_to (ih M) (B M) (N.1 M) (N.2.1 M) stops rest y.1 y.2
      | none => af_ctl en.2.1 T B hk N.2.2 (fun K G as aw => ih K [] (B K 0) G (ai_arg 0 as, [], aw, 0, 0)) (ai_to (ih M) (B M) (N.1 M) (N.2.1 M) stops) M en rest G x
noncomputable def af_ex (T : Nat → ai_MD) (B : Nat → Nat → List ai_E) (hk : ai_H) (N : ai_Ns) (L n : Nat) : Nat → List Nat → List ai_E → ai_G → ai_S → Option (List ai_O) := Nat.rec (fun _ _ _ _ _ => none) (fun _ ih => af_step T B hk N L ih) n
theorem af_ex_eq (T : Nat → ai_MD) (B : Nat → Nat → List ai_E) (hk : ai_H) (N : ai_Ns) (L : Nat) : ∀ n : Nat, af_ex T B hk N L n = ai_ex T B hk N L n
  | 0 => by
    funext M stops code G x
    rfl
  | n + 1 => by
    funext M stops code G x
    show af_step T B hk N L (af_ex T B hk N L n) M stops code G x = _
    rw [af_ex_eq T B hk N L n]
    cases code with
    | nil => rfl
    | cons en rest =>
      rw [ai_ex_succ]
      unfold af_step
      dsimp only
      rw [af_disp_eq]
      cases ai_simp (T M) L en G x.1 x.2.1 x.2.2.1 x.2.2.2.1 x.2.2.2.2 with
      | some y => rfl
      | none =>
        dsimp only
        rw [af_rdm_eq]
        cases ai_rdm en G x.1 x.2.1 x.2.2.1 x.2.2.2.1 x.2.2.2.2 with
        | some y => rfl
        | none => exact af_ctl_eq _ _ _ _ _ _ _ _ _ _ _
end
