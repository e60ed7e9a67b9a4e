section
-- ===== PART A: goes FIRST, ahead of the names: the tables' words, and 'selects' of the private methods out of them =====
/-- a private method of a class that the tables say can be made, by its rows of tables_1 -/
def lw_okq (q : MethodName × Nat) : Prop := (q.1.cls ≠ "java/lang/invoke/MethodHandle" ∧ q.1.cls ≠ "java/lang/invoke/VarHandle") ∧ Cond.instantiable q.1.cls q.2 ∈ tables_1 ∧ Cond.privateMethod q.1 ∈ tables_1 ∧ Cond.instanceMethod q.1 ∈ tables_1
theorem lw_p0 : lw_okq (⟨"WaitingWires$Reader", "take", "()V"⟩, 9) := ⟨⟨by decide +kernel, by decide +kernel⟩, List.mem_of_getElem? (i := 29) (by decide +kernel), List.mem_of_getElem? (i := 483) (by decide +kernel), List.mem_of_getElem? (i := 484) (by decide +kernel)⟩
theorem lw_p1 : lw_okq (⟨"WaitingWires$Reader", "refuse", "(II)V"⟩, 9) := ⟨⟨by decide +kernel, by decide +kernel⟩, List.mem_of_getElem? (i := 29) (by decide +kernel), List.mem_of_getElem? (i := 493) (by decide +kernel), List.mem_of_getElem? (i := 494) (by decide +kernel)⟩
theorem lw_p2 : lw_okq (⟨"WaitingWires$Reader", "readLine", "()V"⟩, 9) := ⟨⟨by decide +kernel, by decide +kernel⟩, List.mem_of_getElem? (i := 29) (by decide +kernel), List.mem_of_getElem? (i := 497) (by decide +kernel), List.mem_of_getElem? (i := 498) (by decide +kernel)⟩
theorem lw_p3 : lw_okq (⟨"WaitingWires$Reader", "isWord", "(Ljava/lang/String;)Z"⟩, 9) := ⟨⟨by decide +kernel, by decide +kernel⟩, List.mem_of_getElem? (i := 29) (by decide +kernel), List.mem_of_getElem? (i := 502) (by decide +kernel), List.mem_of_getElem? (i := 503) (by decide +kernel)⟩
theorem lw_p4 : lw_okq (⟨"WaitingWires$Reader", "readWire", "(I)V"⟩, 9) := ⟨⟨by decide +kernel, by decide +kernel⟩, List.mem_of_getElem? (i := 29) (by decide +kernel), List.mem_of_getElem? (i := 554) (by decide +kernel), List.mem_of_getElem? (i := 555) (by decide +kernel)⟩
theorem lw_p5 : lw_okq (⟨"WaitingWires$Reader", "isLetter", "()Z"⟩, 9) := ⟨⟨by decide +kernel, by decide +kernel⟩, List.mem_of_getElem? (i := 29) (by decide +kernel), List.mem_of_getElem? (i := 558) (by decide +kernel), List.mem_of_getElem? (i := 559) (by decide +kernel)⟩
theorem lw_p6 : lw_okq (⟨"WaitingWires$Reader", "takeSign", "(C)V"⟩, 9) := ⟨⟨by decide +kernel, by decide +kernel⟩, List.mem_of_getElem? (i := 29) (by decide +kernel), List.mem_of_getElem? (i := 570) (by decide +kernel), List.mem_of_getElem? (i := 571) (by decide +kernel)⟩
theorem lw_p7 : lw_okq (⟨"WaitingWires$Reader", "isSign", "(C)Z"⟩, 9) := ⟨⟨by decide +kernel, by decide +kernel⟩, List.mem_of_getElem? (i := 29) (by decide +kernel), List.mem_of_getElem? (i := 574) (by decide +kernel), List.mem_of_getElem? (i := 575) (by decide +kernel)⟩
theorem lw_p8 : lw_okq (⟨"WaitingWires$Reader", "readPlace", "()V"⟩, 9) := ⟨⟨by decide +kernel, by decide +kernel⟩, List.mem_of_getElem? (i := 29) (by decide +kernel), List.mem_of_getElem? (i := 581) (by decide +kernel), List.mem_of_getElem? (i := 582) (by decide +kernel)⟩
theorem lw_p9 : lw_okq (⟨"WaitingWires$Reader", "readEvent", "(I)I"⟩, 9) := ⟨⟨by decide +kernel, by decide +kernel⟩, List.mem_of_getElem? (i := 29) (by decide +kernel), List.mem_of_getElem? (i := 585) (by decide +kernel), List.mem_of_getElem? (i := 586) (by decide +kernel)⟩
theorem lw_p10 : lw_okq (⟨"WaitingWires$Reader", "readIndex", "()I"⟩, 9) := ⟨⟨by decide +kernel, by decide +kernel⟩, List.mem_of_getElem? (i := 29) (by decide +kernel), List.mem_of_getElem? (i := 589) (by decide +kernel), List.mem_of_getElem? (i := 590) (by decide +kernel)⟩
theorem lw_p11 : lw_okq (⟨"WaitingWires$Reader", "numberOf", "(III)I"⟩, 9) := ⟨⟨by decide +kernel, by decide +kernel⟩, List.mem_of_getElem? (i := 29) (by decide +kernel), List.mem_of_getElem? (i := 593) (by decide +kernel), List.mem_of_getElem? (i := 594) (by decide +kernel)⟩
theorem lw_p12 : lw_okq (⟨"WaitingWires", "beginAnew", "()V"⟩, 17) := ⟨⟨by decide +kernel, by decide +kernel⟩, List.mem_of_getElem? (i := 21) (by decide +kernel), List.mem_of_getElem? (i := 609) (by decide +kernel), List.mem_of_getElem? (i := 610) (by decide +kernel)⟩
theorem lw_p13 : lw_okq (⟨"WaitingWires", "explore", "()V"⟩, 17) := ⟨⟨by decide +kernel, by decide +kernel⟩, List.mem_of_getElem? (i := 21) (by decide +kernel), List.mem_of_getElem? (i := 649) (by decide +kernel), List.mem_of_getElem? (i := 650) (by decide +kernel)⟩
theorem lw_p14 : lw_okq (⟨"WaitingWires$Space", "meet", "(II)I"⟩, 12) := ⟨⟨by decide +kernel, by decide +kernel⟩, List.mem_of_getElem? (i := 67) (by decide +kernel), List.mem_of_getElem? (i := 660) (by decide +kernel), List.mem_of_getElem? (i := 661) (by decide +kernel)⟩
theorem lw_p15 : lw_okq (⟨"WaitingWires$Space", "expand", "(LWaitingWires$Net;I)V"⟩, 12) := ⟨⟨by decide +kernel, by decide +kernel⟩, List.mem_of_getElem? (i := 67) (by decide +kernel), List.mem_of_getElem? (i := 665) (by decide +kernel), List.mem_of_getElem? (i := 666) (by decide +kernel)⟩
def lw_privs_1 : List (MethodName × Nat) := [(⟨"WaitingWires$Reader", "take", "()V"⟩, 9), (⟨"WaitingWires$Reader", "refuse", "(II)V"⟩, 9), (⟨"WaitingWires$Reader", "readLine", "()V"⟩, 9), (⟨"WaitingWires$Reader", "isWord", "(Ljava/lang/String;)Z"⟩, 9), (⟨"WaitingWires$Reader", "readWire", "(I)V"⟩, 9), (⟨"WaitingWires$Reader", "isLetter", "()Z"⟩, 9), (⟨"WaitingWires$Reader", "takeSign", "(C)V"⟩, 9), (⟨"WaitingWires$Reader", "isSign", "(C)Z"⟩, 9), (⟨"WaitingWires$Reader", "readPlace", "()V"⟩, 9), (⟨"WaitingWires$Reader", "readEvent", "(I)I"⟩, 9), (⟨"WaitingWires$Reader", "readIndex", "()I"⟩, 9), (⟨"WaitingWires$Reader", "numberOf", "(III)I"⟩, 9), (⟨"WaitingWires", "beginAnew", "()V"⟩, 17), (⟨"WaitingWires", "explore", "()V"⟩, 17), (⟨"WaitingWires$Space", "meet", "(II)I"⟩, 12), (⟨"WaitingWires$Space", "expand", "(LWaitingWires$Net;I)V"⟩, 12)]
theorem lw_r1 : ∀ q ∈ lw_privs_1, lw_okq q := List.forall_mem_cons.mpr ⟨lw_p0, List.forall_mem_cons.mpr ⟨lw_p1, List.forall_mem_cons.mpr ⟨lw_p2, List.forall_mem_cons.mpr ⟨lw_p3, List.forall_mem_cons.mpr ⟨lw_p4, List.forall_mem_cons.mpr ⟨lw_p5, List.forall_mem_cons.mpr ⟨lw_p6, List.forall_mem_cons.mpr ⟨lw_p7, List.forall_mem_cons.mpr ⟨lw_p8, List.forall_mem_cons.mpr ⟨lw_p9, List.forall_mem_cons.mpr ⟨lw_p10, List.forall_mem_cons.mpr ⟨lw_p11, List.forall_mem_cons.mpr ⟨lw_p12, List.forall_mem_cons.mpr ⟨lw_p13, List.forall_mem_cons.mpr ⟨lw_p14, List.forall_mem_cons.mpr ⟨lw_p15, fun _ h => absurd h List.not_mem_nil⟩⟩⟩⟩⟩⟩⟩⟩⟩⟩⟩⟩⟩⟩⟩⟩
theorem lw_p16 : lw_okq (⟨"WaitingWires$Space", "tellLevels", "(LWaitingWires$Net;)Z"⟩, 12) := ⟨⟨by decide +kernel, by decide +kernel⟩, List.mem_of_getElem? (i := 67) (by decide +kernel), List.mem_of_getElem? (i := 681) (by decide +kernel), List.mem_of_getElem? (i := 682) (by decide +kernel)⟩
theorem lw_p17 : lw_okq (⟨"WaitingWires", "isRight", "()Z"⟩, 17) := ⟨⟨by decide +kernel, by decide +kernel⟩, List.mem_of_getElem? (i := 21) (by decide +kernel), List.mem_of_getElem? (i := 689) (by decide +kernel), List.mem_of_getElem? (i := 690) (by decide +kernel)⟩
theorem lw_p18 : lw_okq (⟨"WaitingWires", "findClashes", "()V"⟩, 17) := ⟨⟨by decide +kernel, by decide +kernel⟩, List.mem_of_getElem? (i := 21) (by decide +kernel), List.mem_of_getElem? (i := 709) (by decide +kernel), List.mem_of_getElem? (i := 710) (by decide +kernel)⟩
theorem lw_p19 : lw_okq (⟨"WaitingWires$Clashes", "findQuarrels", "(ILWaitingWires$Space;)V"⟩, 10) := ⟨⟨by decide +kernel, by decide +kernel⟩, List.mem_of_getElem? (i := 125) (by decide +kernel), List.mem_of_getElem? (i := 721) (by decide +kernel), List.mem_of_getElem? (i := 722) (by decide +kernel)⟩
theorem lw_p20 : lw_okq (⟨"WaitingWires$Clashes", "addQuarrel", "(II)V"⟩, 10) := ⟨⟨by decide +kernel, by decide +kernel⟩, List.mem_of_getElem? (i := 125) (by decide +kernel), List.mem_of_getElem? (i := 726) (by decide +kernel), List.mem_of_getElem? (i := 727) (by decide +kernel)⟩
theorem lw_p21 : lw_okq (⟨"WaitingWires$Clashes", "findTakenBack", "(LWaitingWires$Net;ILWaitingWires$Space;)V"⟩, 10) := ⟨⟨by decide +kernel, by decide +kernel⟩, List.mem_of_getElem? (i := 125) (by decide +kernel), List.mem_of_getElem? (i := 730) (by decide +kernel), List.mem_of_getElem? (i := 731) (by decide +kernel)⟩
theorem lw_p22 : lw_okq (⟨"WaitingWires$Clashes", "addTakenBack", "(LWaitingWires$Net;IIII)V"⟩, 10) := ⟨⟨by decide +kernel, by decide +kernel⟩, List.mem_of_getElem? (i := 125) (by decide +kernel), List.mem_of_getElem? (i := 735) (by decide +kernel), List.mem_of_getElem? (i := 736) (by decide +kernel)⟩
theorem lw_p23 : lw_okq (⟨"WaitingWires$Space", "findHome", "()I"⟩, 12) := ⟨⟨by decide +kernel, by decide +kernel⟩, List.mem_of_getElem? (i := 67) (by decide +kernel), List.mem_of_getElem? (i := 755) (by decide +kernel), List.mem_of_getElem? (i := 756) (by decide +kernel)⟩
theorem lw_p24 : lw_okq (⟨"WaitingWires$Space", "leadsHome", "(I)Z"⟩, 12) := ⟨⟨by decide +kernel, by decide +kernel⟩, List.mem_of_getElem? (i := 67) (by decide +kernel), List.mem_of_getElem? (i := 759) (by decide +kernel), List.mem_of_getElem? (i := 760) (by decide +kernel)⟩
theorem lw_p25 : lw_okq (⟨"WaitingWires", "gatherSums", "()V"⟩, 17) := ⟨⟨by decide +kernel, by decide +kernel⟩, List.mem_of_getElem? (i := 21) (by decide +kernel), List.mem_of_getElem? (i := 773) (by decide +kernel), List.mem_of_getElem? (i := 774) (by decide +kernel)⟩
theorem lw_p26 : lw_okq (⟨"WaitingWires", "canBeMade", "(I)Z"⟩, 17) := ⟨⟨by decide +kernel, by decide +kernel⟩, List.mem_of_getElem? (i := 21) (by decide +kernel), List.mem_of_getElem? (i := 791) (by decide +kernel), List.mem_of_getElem? (i := 792) (by decide +kernel)⟩
theorem lw_p27 : lw_okq (⟨"WaitingWires$Cover", "weighLevels", "(J)V"⟩, 10) := ⟨⟨by decide +kernel, by decide +kernel⟩, List.mem_of_getElem? (i := 176) (by decide +kernel), List.mem_of_getElem? (i := 819) (by decide +kernel), List.mem_of_getElem? (i := 820) (by decide +kernel)⟩
theorem lw_p28 : lw_okq (⟨"WaitingWires$Cover", "putInOrder", "(I)V"⟩, 10) := ⟨⟨by decide +kernel, by decide +kernel⟩, List.mem_of_getElem? (i := 176) (by decide +kernel), List.mem_of_getElem? (i := 826) (by decide +kernel), List.mem_of_getElem? (i := 827) (by decide +kernel)⟩
theorem lw_p29 : lw_okq (⟨"WaitingWires$Cover", "weightAtLeast", "(J)I"⟩, 10) := ⟨⟨by decide +kernel, by decide +kernel⟩, List.mem_of_getElem? (i := 176) (by decide +kernel), List.mem_of_getElem? (i := 837) (by decide +kernel), List.mem_of_getElem? (i := 838) (by decide +kernel)⟩
theorem lw_p30 : lw_okq (⟨"WaitingWires$Cover", "hardest", "(J)I"⟩, 10) := ⟨⟨by decide +kernel, by decide +kernel⟩, List.mem_of_getElem? (i := 176) (by decide +kernel), List.mem_of_getElem? (i := 842) (by decide +kernel), List.mem_of_getElem? (i := 843) (by decide +kernel)⟩
theorem lw_p31 : lw_okq (⟨"WaitingWires$Cover", "isOutdone", "(IIJ)Z"⟩, 10) := ⟨⟨by decide +kernel, by decide +kernel⟩, List.mem_of_getElem? (i := 176) (by decide +kernel), List.mem_of_getElem? (i := 846) (by decide +kernel), List.mem_of_getElem? (i := 847) (by decide +kernel)⟩
def lw_privs_2 : List (MethodName × Nat) := [(⟨"WaitingWires$Space", "tellLevels", "(LWaitingWires$Net;)Z"⟩, 12), (⟨"WaitingWires", "isRight", "()Z"⟩, 17), (⟨"WaitingWires", "findClashes", "()V"⟩, 17), (⟨"WaitingWires$Clashes", "findQuarrels", "(ILWaitingWires$Space;)V"⟩, 10), (⟨"WaitingWires$Clashes", "addQuarrel", "(II)V"⟩, 10), (⟨"WaitingWires$Clashes", "findTakenBack", "(LWaitingWires$Net;ILWaitingWires$Space;)V"⟩, 10), (⟨"WaitingWires$Clashes", "addTakenBack", "(LWaitingWires$Net;IIII)V"⟩, 10), (⟨"WaitingWires$Space", "findHome", "()I"⟩, 12), (⟨"WaitingWires$Space", "leadsHome", "(I)Z"⟩, 12), (⟨"WaitingWires", "gatherSums", "()V"⟩, 17), (⟨"WaitingWires", "canBeMade", "(I)Z"⟩, 17), (⟨"WaitingWires$Cover", "weighLevels", "(J)V"⟩, 10), (⟨"WaitingWires$Cover", "putInOrder", "(I)V"⟩, 10), (⟨"WaitingWires$Cover", "weightAtLeast", "(J)I"⟩, 10), (⟨"WaitingWires$Cover", "hardest", "(J)I"⟩, 10), (⟨"WaitingWires$Cover", "isOutdone", "(IIJ)Z"⟩, 10)]
theorem lw_r2 : ∀ q ∈ lw_privs_2, lw_okq q := List.forall_mem_cons.mpr ⟨lw_p16, List.forall_mem_cons.mpr ⟨lw_p17, List.forall_mem_cons.mpr ⟨lw_p18, List.forall_mem_cons.mpr ⟨lw_p19, List.forall_mem_cons.mpr ⟨lw_p20, List.forall_mem_cons.mpr ⟨lw_p21, List.forall_mem_cons.mpr ⟨lw_p22, List.forall_mem_cons.mpr ⟨lw_p23, List.forall_mem_cons.mpr ⟨lw_p24, List.forall_mem_cons.mpr ⟨lw_p25, List.forall_mem_cons.mpr ⟨lw_p26, List.forall_mem_cons.mpr ⟨lw_p27, List.forall_mem_cons.mpr ⟨lw_p28, List.forall_mem_cons.mpr ⟨lw_p29, List.forall_mem_cons.mpr ⟨lw_p30, List.forall_mem_cons.mpr ⟨lw_p31, fun _ h => absurd h List.not_mem_nil⟩⟩⟩⟩⟩⟩⟩⟩⟩⟩⟩⟩⟩⟩⟩⟩
theorem lw_p32 : lw_okq (⟨"WaitingWires$Cover", "firstThatCanDo", "(JII)I"⟩, 10) := ⟨⟨by decide +kernel, by decide +kernel⟩, List.mem_of_getElem? (i := 176) (by decide +kernel), List.mem_of_getElem? (i := 850) (by decide +kernel), List.mem_of_getElem? (i := 851) (by decide +kernel)⟩
theorem lw_p33 : lw_okq (⟨"WaitingWires", "refusedCure", "(II)I"⟩, 17) := ⟨⟨by decide +kernel, by decide +kernel⟩, List.mem_of_getElem? (i := 21) (by decide +kernel), List.mem_of_getElem? (i := 895) (by decide +kernel), List.mem_of_getElem? (i := 896) (by decide +kernel)⟩
theorem lw_p34 : lw_okq (⟨"WaitingWires", "tryCure", "(II)V"⟩, 17) := ⟨⟨by decide +kernel, by decide +kernel⟩, List.mem_of_getElem? (i := 21) (by decide +kernel), List.mem_of_getElem? (i := 903) (by decide +kernel), List.mem_of_getElem? (i := 904) (by decide +kernel)⟩
theorem lw_p35 : lw_okq (⟨"WaitingWires$Net", "freeLetter", "()I"⟩, 14) := ⟨⟨by decide +kernel, by decide +kernel⟩, List.mem_of_getElem? (i := 310) (by decide +kernel), List.mem_of_getElem? (i := 918) (by decide +kernel), List.mem_of_getElem? (i := 919) (by decide +kernel)⟩
theorem lw_p36 : lw_okq (⟨"WaitingWires$Net", "handOver", "(II)V"⟩, 14) := ⟨⟨by decide +kernel, by decide +kernel⟩, List.mem_of_getElem? (i := 310) (by decide +kernel), List.mem_of_getElem? (i := 925) (by decide +kernel), List.mem_of_getElem? (i := 926) (by decide +kernel)⟩
theorem lw_p37 : lw_okq (⟨"WaitingWires", "searchCures", "(Z)V"⟩, 17) := ⟨⟨by decide +kernel, by decide +kernel⟩, List.mem_of_getElem? (i := 21) (by decide +kernel), List.mem_of_getElem? (i := 938) (by decide +kernel), List.mem_of_getElem? (i := 939) (by decide +kernel)⟩
theorem lw_p38 : lw_okq (⟨"WaitingWires", "wouldCure", "(II)Z"⟩, 17) := ⟨⟨by decide +kernel, by decide +kernel⟩, List.mem_of_getElem? (i := 21) (by decide +kernel), List.mem_of_getElem? (i := 942) (by decide +kernel), List.mem_of_getElem? (i := 943) (by decide +kernel)⟩
theorem lw_p39 : lw_okq (⟨"WaitingWires", "findRings", "()V"⟩, 17) := ⟨⟨by decide +kernel, by decide +kernel⟩, List.mem_of_getElem? (i := 21) (by decide +kernel), List.mem_of_getElem? (i := 954) (by decide +kernel), List.mem_of_getElem? (i := 955) (by decide +kernel)⟩
theorem lw_p40 : lw_okq (⟨"WaitingWires$Rings", "findEnds", "(LWaitingWires$Net;)Z"⟩, 11) := ⟨⟨by decide +kernel, by decide +kernel⟩, List.mem_of_getElem? (i := 247) (by decide +kernel), List.mem_of_getElem? (i := 962) (by decide +kernel), List.mem_of_getElem? (i := 963) (by decide +kernel)⟩
theorem lw_p41 : lw_okq (⟨"WaitingWires$Rings", "putInOrder", "(LWaitingWires$Net;)Z"⟩, 11) := ⟨⟨by decide +kernel, by decide +kernel⟩, List.mem_of_getElem? (i := 247) (by decide +kernel), List.mem_of_getElem? (i := 970) (by decide +kernel), List.mem_of_getElem? (i := 971) (by decide +kernel)⟩
theorem lw_p42 : lw_okq (⟨"WaitingWires$Rings", "waitsForNone", "(LWaitingWires$Net;II)Z"⟩, 11) := ⟨⟨by decide +kernel, by decide +kernel⟩, List.mem_of_getElem? (i := 247) (by decide +kernel), List.mem_of_getElem? (i := 974) (by decide +kernel), List.mem_of_getElem? (i := 975) (by decide +kernel)⟩
theorem lw_p43 : lw_okq (⟨"WaitingWires$Rings", "findClosedWays", "(LWaitingWires$Net;I)V"⟩, 11) := ⟨⟨by decide +kernel, by decide +kernel⟩, List.mem_of_getElem? (i := 247) (by decide +kernel), List.mem_of_getElem? (i := 978) (by decide +kernel), List.mem_of_getElem? (i := 979) (by decide +kernel)⟩
theorem lw_p44 : lw_okq (⟨"WaitingWires$Rings", "goOnWithoutToken", "(LWaitingWires$Net;)V"⟩, 11) := ⟨⟨by decide +kernel, by decide +kernel⟩, List.mem_of_getElem? (i := 247) (by decide +kernel), List.mem_of_getElem? (i := 983) (by decide +kernel), List.mem_of_getElem? (i := 984) (by decide +kernel)⟩
theorem lw_p45 : lw_okq (⟨"WaitingWires$Rings", "lengthen", "([ILWaitingWires$Net;I)V"⟩, 11) := ⟨⟨by decide +kernel, by decide +kernel⟩, List.mem_of_getElem? (i := 247) (by decide +kernel), List.mem_of_getElem? (i := 987) (by decide +kernel), List.mem_of_getElem? (i := 988) (by decide +kernel)⟩
theorem lw_p46 : lw_okq (⟨"WaitingWires$Rings", "turnWays", "()V"⟩, 11) := ⟨⟨by decide +kernel, by decide +kernel⟩, List.mem_of_getElem? (i := 247) (by decide +kernel), List.mem_of_getElem? (i := 994) (by decide +kernel), List.mem_of_getElem? (i := 995) (by decide +kernel)⟩
theorem lw_p47 : lw_okq (⟨"WaitingWires$Rings", "findBeat", "(I)V"⟩, 11) := ⟨⟨by decide +kernel, by decide +kernel⟩, List.mem_of_getElem? (i := 247) (by decide +kernel), List.mem_of_getElem? (i := 998) (by decide +kernel), List.mem_of_getElem? (i := 999) (by decide +kernel)⟩
def lw_privs_3 : List (MethodName × Nat) := [(⟨"WaitingWires$Cover", "firstThatCanDo", "(JII)I"⟩, 10), (⟨"WaitingWires", "refusedCure", "(II)I"⟩, 17), (⟨"WaitingWires", "tryCure", "(II)V"⟩, 17), (⟨"WaitingWires$Net", "freeLetter", "()I"⟩, 14), (⟨"WaitingWires$Net", "handOver", "(II)V"⟩, 14), (⟨"WaitingWires", "searchCures", "(Z)V"⟩, 17), (⟨"WaitingWires", "wouldCure", "(II)Z"⟩, 17), (⟨"WaitingWires", "findRings", "()V"⟩, 17), (⟨"WaitingWires$Rings", "findEnds", "(LWaitingWires$Net;)Z"⟩, 11), (⟨"WaitingWires$Rings", "putInOrder", "(LWaitingWires$Net;)Z"⟩, 11), (⟨"WaitingWires$Rings", "waitsForNone", "(LWaitingWires$Net;II)Z"⟩, 11), (⟨"WaitingWires$Rings", "findClosedWays", "(LWaitingWires$Net;I)V"⟩, 11), (⟨"WaitingWires$Rings", "goOnWithoutToken", "(LWaitingWires$Net;)V"⟩, 11), (⟨"WaitingWires$Rings", "lengthen", "([ILWaitingWires$Net;I)V"⟩, 11), (⟨"WaitingWires$Rings", "turnWays", "()V"⟩, 11), (⟨"WaitingWires$Rings", "findBeat", "(I)V"⟩, 11)]
theorem lw_r3 : ∀ q ∈ lw_privs_3, lw_okq q := List.forall_mem_cons.mpr ⟨lw_p32, List.forall_mem_cons.mpr ⟨lw_p33, List.forall_mem_cons.mpr ⟨lw_p34, List.forall_mem_cons.mpr ⟨lw_p35, List.forall_mem_cons.mpr ⟨lw_p36, List.forall_mem_cons.mpr ⟨lw_p37, List.forall_mem_cons.mpr ⟨lw_p38, List.forall_mem_cons.mpr ⟨lw_p39, List.forall_mem_cons.mpr ⟨lw_p40, List.forall_mem_cons.mpr ⟨lw_p41, List.forall_mem_cons.mpr ⟨lw_p42, List.forall_mem_cons.mpr ⟨lw_p43, List.forall_mem_cons.mpr ⟨lw_p44, List.forall_mem_cons.mpr ⟨lw_p45, List.forall_mem_cons.mpr ⟨lw_p46, List.forall_mem_cons.mpr ⟨lw_p47, fun _ h => absurd h List.not_mem_nil⟩⟩⟩⟩⟩⟩⟩⟩⟩⟩⟩⟩⟩⟩⟩⟩
theorem lw_p48 : lw_okq (⟨"WaitingWires$Rings", "reduce", "()V"⟩, 11) := ⟨⟨by decide +kernel, by decide +kernel⟩, List.mem_of_getElem? (i := 247) (by decide +kernel), List.mem_of_getElem? (i := 1002) (by decide +kernel), List.mem_of_getElem? (i := 1003) (by decide +kernel)⟩
theorem lw_p49 : lw_okq (⟨"WaitingWires$Rings", "beginOf", "(LWaitingWires$Net;I)I"⟩, 11) := ⟨⟨by decide +kernel, by decide +kernel⟩, List.mem_of_getElem? (i := 247) (by decide +kernel), List.mem_of_getElem? (i := 1014) (by decide +kernel), List.mem_of_getElem? (i := 1015) (by decide +kernel)⟩
theorem lw_p50 : lw_okq (⟨"WaitingWiresModel", "next", "()V"⟩, 70) := ⟨⟨by decide +kernel, by decide +kernel⟩, List.mem_of_getElem? (i := 1083) (by decide +kernel), List.mem_of_getElem? (i := 1316) (by decide +kernel), List.mem_of_getElem? (i := 1317) (by decide +kernel)⟩
theorem lw_p51 : lw_okq (⟨"WaitingWiresModel", "byteAt", "(I)I"⟩, 70) := ⟨⟨by decide +kernel, by decide +kernel⟩, List.mem_of_getElem? (i := 1083) (by decide +kernel), List.mem_of_getElem? (i := 1320) (by decide +kernel), List.mem_of_getElem? (i := 1321) (by decide +kernel)⟩
theorem lw_p52 : lw_okq (⟨"WaitingWiresModel", "fails", "(I)V"⟩, 70) := ⟨⟨by decide +kernel, by decide +kernel⟩, List.mem_of_getElem? (i := 1083) (by decide +kernel), List.mem_of_getElem? (i := 1328) (by decide +kernel), List.mem_of_getElem? (i := 1329) (by decide +kernel)⟩
theorem lw_p53 : lw_okq (⟨"WaitingWiresModel", "failsAt", "(II)V"⟩, 70) := ⟨⟨by decide +kernel, by decide +kernel⟩, List.mem_of_getElem? (i := 1083) (by decide +kernel), List.mem_of_getElem? (i := 1332) (by decide +kernel), List.mem_of_getElem? (i := 1333) (by decide +kernel)⟩
theorem lw_p54 : lw_okq (⟨"WaitingWiresModel", "readLine", "()V"⟩, 70) := ⟨⟨by decide +kernel, by decide +kernel⟩, List.mem_of_getElem? (i := 1083) (by decide +kernel), List.mem_of_getElem? (i := 1336) (by decide +kernel), List.mem_of_getElem? (i := 1337) (by decide +kernel)⟩
theorem lw_p55 : lw_okq (⟨"WaitingWiresModel", "readPlace", "()V"⟩, 70) := ⟨⟨by decide +kernel, by decide +kernel⟩, List.mem_of_getElem? (i := 1083) (by decide +kernel), List.mem_of_getElem? (i := 1341) (by decide +kernel), List.mem_of_getElem? (i := 1342) (by decide +kernel)⟩
theorem lw_p56 : lw_okq (⟨"WaitingWiresModel", "isSign", "(I)Z"⟩, 70) := ⟨⟨by decide +kernel, by decide +kernel⟩, List.mem_of_getElem? (i := 1083) (by decide +kernel), List.mem_of_getElem? (i := 1345) (by decide +kernel), List.mem_of_getElem? (i := 1346) (by decide +kernel)⟩
theorem lw_p57 : lw_okq (⟨"WaitingWiresModel", "readEvent", "(Z)V"⟩, 70) := ⟨⟨by decide +kernel, by decide +kernel⟩, List.mem_of_getElem? (i := 1083) (by decide +kernel), List.mem_of_getElem? (i := 1349) (by decide +kernel), List.mem_of_getElem? (i := 1350) (by decide +kernel)⟩
theorem lw_p58 : lw_okq (⟨"WaitingWiresModel", "isLetter", "()Z"⟩, 70) := ⟨⟨by decide +kernel, by decide +kernel⟩, List.mem_of_getElem? (i := 1083) (by decide +kernel), List.mem_of_getElem? (i := 1353) (by decide +kernel), List.mem_of_getElem? (i := 1354) (by decide +kernel)⟩
theorem lw_p59 : lw_okq (⟨"WaitingWiresModel", "wireAt", "(I)I"⟩, 70) := ⟨⟨by decide +kernel, by decide +kernel⟩, List.mem_of_getElem? (i := 1083) (by decide +kernel), List.mem_of_getElem? (i := 1358) (by decide +kernel), List.mem_of_getElem? (i := 1359) (by decide +kernel)⟩
theorem lw_p60 : lw_okq (⟨"WaitingWiresModel", "readWire", "(I)V"⟩, 70) := ⟨⟨by decide +kernel, by decide +kernel⟩, List.mem_of_getElem? (i := 1083) (by decide +kernel), List.mem_of_getElem? (i := 1363) (by decide +kernel), List.mem_of_getElem? (i := 1364) (by decide +kernel)⟩
theorem lw_p61 : lw_okq (⟨"WaitingWiresModel", "begin", "()V"⟩, 70) := ⟨⟨by decide +kernel, by decide +kernel⟩, List.mem_of_getElem? (i := 1083) (by decide +kernel), List.mem_of_getElem? (i := 1367) (by decide +kernel), List.mem_of_getElem? (i := 1368) (by decide +kernel)⟩
theorem lw_p62 : lw_okq (⟨"WaitingWiresModel", "isWire", "(I)Z"⟩, 70) := ⟨⟨by decide +kernel, by decide +kernel⟩, List.mem_of_getElem? (i := 1083) (by decide +kernel), List.mem_of_getElem? (i := 1379) (by decide +kernel), List.mem_of_getElem? (i := 1380) (by decide +kernel)⟩
theorem lw_p63 : lw_okq (⟨"WaitingWiresModel", "isEvent", "(I)Z"⟩, 70) := ⟨⟨by decide +kernel, by decide +kernel⟩, List.mem_of_getElem? (i := 1083) (by decide +kernel), List.mem_of_getElem? (i := 1387) (by decide +kernel), List.mem_of_getElem? (i := 1388) (by decide +kernel)⟩
def lw_privs_4 : List (MethodName × Nat) := [(⟨"WaitingWires$Rings", "reduce", "()V"⟩, 11), (⟨"WaitingWires$Rings", "beginOf", "(LWaitingWires$Net;I)I"⟩, 11), (⟨"WaitingWiresModel", "next", "()V"⟩, 70), (⟨"WaitingWiresModel", "byteAt", "(I)I"⟩, 70), (⟨"WaitingWiresModel", "fails", "(I)V"⟩, 70), (⟨"WaitingWiresModel", "failsAt", "(II)V"⟩, 70), (⟨"WaitingWiresModel", "readLine", "()V"⟩, 70), (⟨"WaitingWiresModel", "readPlace", "()V"⟩, 70), (⟨"WaitingWiresModel", "isSign", "(I)Z"⟩, 70), (⟨"WaitingWiresModel", "readEvent", "(Z)V"⟩, 70), (⟨"WaitingWiresModel", "isLetter", "()Z"⟩, 70), (⟨"WaitingWiresModel", "wireAt", "(I)I"⟩, 70), (⟨"WaitingWiresModel", "readWire", "(I)V"⟩, 70), (⟨"WaitingWiresModel", "begin", "()V"⟩, 70), (⟨"WaitingWiresModel", "isWire", "(I)Z"⟩, 70), (⟨"WaitingWiresModel", "isEvent", "(I)Z"⟩, 70)]
theorem lw_r4 : ∀ q ∈ lw_privs_4, lw_okq q := List.forall_mem_cons.mpr ⟨lw_p48, List.forall_mem_cons.mpr ⟨lw_p49, List.forall_mem_cons.mpr ⟨lw_p50, List.forall_mem_cons.mpr ⟨lw_p51, List.forall_mem_cons.mpr ⟨lw_p52, List.forall_mem_cons.mpr ⟨lw_p53, List.forall_mem_cons.mpr ⟨lw_p54, List.forall_mem_cons.mpr ⟨lw_p55, List.forall_mem_cons.mpr ⟨lw_p56, List.forall_mem_cons.mpr ⟨lw_p57, List.forall_mem_cons.mpr ⟨lw_p58, List.forall_mem_cons.mpr ⟨lw_p59, List.forall_mem_cons.mpr ⟨lw_p60, List.forall_mem_cons.mpr ⟨lw_p61, List.forall_mem_cons.mpr ⟨lw_p62, List.forall_mem_cons.mpr ⟨lw_p63, fun _ h => absurd h List.not_mem_nil⟩⟩⟩⟩⟩⟩⟩⟩⟩⟩⟩⟩⟩⟩⟩⟩
theorem lw_p64 : lw_okq (⟨"WaitingWiresModel", "feeding", "(I)I"⟩, 70) := ⟨⟨by decide +kernel, by decide +kernel⟩, List.mem_of_getElem? (i := 1083) (by decide +kernel), List.mem_of_getElem? (i := 1395) (by decide +kernel), List.mem_of_getElem? (i := 1396) (by decide +kernel)⟩
theorem lw_p65 : lw_okq (⟨"WaitingWiresModel", "taking", "(I)I"⟩, 70) := ⟨⟨by decide +kernel, by decide +kernel⟩, List.mem_of_getElem? (i := 1083) (by decide +kernel), List.mem_of_getElem? (i := 1399) (by decide +kernel), List.mem_of_getElem? (i := 1400) (by decide +kernel)⟩
theorem lw_p66 : lw_okq (⟨"WaitingWiresModel", "layStates", "()I"⟩, 70) := ⟨⟨by decide +kernel, by decide +kernel⟩, List.mem_of_getElem? (i := 1083) (by decide +kernel), List.mem_of_getElem? (i := 1407) (by decide +kernel), List.mem_of_getElem? (i := 1408) (by decide +kernel)⟩
theorem lw_p67 : lw_okq (⟨"WaitingWiresModel", "isReady", "(II)Z"⟩, 70) := ⟨⟨by decide +kernel, by decide +kernel⟩, List.mem_of_getElem? (i := 1083) (by decide +kernel), List.mem_of_getElem? (i := 1411) (by decide +kernel), List.mem_of_getElem? (i := 1412) (by decide +kernel)⟩
theorem lw_p68 : lw_okq (⟨"WaitingWiresModel", "isUnsafe", "(II)Z"⟩, 70) := ⟨⟨by decide +kernel, by decide +kernel⟩, List.mem_of_getElem? (i := 1083) (by decide +kernel), List.mem_of_getElem? (i := 1415) (by decide +kernel), List.mem_of_getElem? (i := 1416) (by decide +kernel)⟩
theorem lw_p69 : lw_okq (⟨"WaitingWiresModel", "after", "(II)I"⟩, 70) := ⟨⟨by decide +kernel, by decide +kernel⟩, List.mem_of_getElem? (i := 1083) (by decide +kernel), List.mem_of_getElem? (i := 1419) (by decide +kernel), List.mem_of_getElem? (i := 1420) (by decide +kernel)⟩
theorem lw_p70 : lw_okq (⟨"WaitingWiresModel", "stateOf", "(I)I"⟩, 70) := ⟨⟨by decide +kernel, by decide +kernel⟩, List.mem_of_getElem? (i := 1083) (by decide +kernel), List.mem_of_getElem? (i := 1423) (by decide +kernel), List.mem_of_getElem? (i := 1424) (by decide +kernel)⟩
theorem lw_p71 : lw_okq (⟨"WaitingWiresModel", "layRight", "()Z"⟩, 70) := ⟨⟨by decide +kernel, by decide +kernel⟩, List.mem_of_getElem? (i := 1083) (by decide +kernel), List.mem_of_getElem? (i := 1431) (by decide +kernel), List.mem_of_getElem? (i := 1432) (by decide +kernel)⟩
theorem lw_p72 : lw_okq (⟨"WaitingWiresModel", "layLevels", "(II)Z"⟩, 70) := ⟨⟨by decide +kernel, by decide +kernel⟩, List.mem_of_getElem? (i := 1083) (by decide +kernel), List.mem_of_getElem? (i := 1435) (by decide +kernel), List.mem_of_getElem? (i := 1436) (by decide +kernel)⟩
theorem lw_p73 : lw_okq (⟨"WaitingWiresModel", "readyIn", "(I)I"⟩, 70) := ⟨⟨by decide +kernel, by decide +kernel⟩, List.mem_of_getElem? (i := 1083) (by decide +kernel), List.mem_of_getElem? (i := 1446) (by decide +kernel), List.mem_of_getElem? (i := 1447) (by decide +kernel)⟩
theorem lw_p74 : lw_okq (⟨"WaitingWiresModel", "excited", "(I)I"⟩, 70) := ⟨⟨by decide +kernel, by decide +kernel⟩, List.mem_of_getElem? (i := 1083) (by decide +kernel), List.mem_of_getElem? (i := 1450) (by decide +kernel), List.mem_of_getElem? (i := 1451) (by decide +kernel)⟩
theorem lw_p75 : lw_okq (⟨"WaitingWiresModel", "aims", "(I)I"⟩, 70) := ⟨⟨by decide +kernel, by decide +kernel⟩, List.mem_of_getElem? (i := 1083) (by decide +kernel), List.mem_of_getElem? (i := 1454) (by decide +kernel), List.mem_of_getElem? (i := 1455) (by decide +kernel)⟩
theorem lw_p76 : lw_okq (⟨"WaitingWiresModel", "layQuarrels", "()V"⟩, 70) := ⟨⟨by decide +kernel, by decide +kernel⟩, List.mem_of_getElem? (i := 1083) (by decide +kernel), List.mem_of_getElem? (i := 1463) (by decide +kernel), List.mem_of_getElem? (i := 1464) (by decide +kernel)⟩
theorem lw_p77 : lw_okq (⟨"WaitingWiresModel", "ownWires", "()I"⟩, 70) := ⟨⟨by decide +kernel, by decide +kernel⟩, List.mem_of_getElem? (i := 1083) (by decide +kernel), List.mem_of_getElem? (i := 1467) (by decide +kernel), List.mem_of_getElem? (i := 1468) (by decide +kernel)⟩
theorem lw_p78 : lw_okq (⟨"WaitingWiresModel", "layBacks", "()V"⟩, 70) := ⟨⟨by decide +kernel, by decide +kernel⟩, List.mem_of_getElem? (i := 1083) (by decide +kernel), List.mem_of_getElem? (i := 1475) (by decide +kernel), List.mem_of_getElem? (i := 1476) (by decide +kernel)⟩
theorem lw_p79 : lw_okq (⟨"WaitingWiresModel", "layAims", "(I)V"⟩, 70) := ⟨⟨by decide +kernel, by decide +kernel⟩, List.mem_of_getElem? (i := 1083) (by decide +kernel), List.mem_of_getElem? (i := 1487) (by decide +kernel), List.mem_of_getElem? (i := 1488) (by decide +kernel)⟩
def lw_privs_5 : List (MethodName × Nat) := [(⟨"WaitingWiresModel", "feeding", "(I)I"⟩, 70), (⟨"WaitingWiresModel", "taking", "(I)I"⟩, 70), (⟨"WaitingWiresModel", "layStates", "()I"⟩, 70), (⟨"WaitingWiresModel", "isReady", "(II)Z"⟩, 70), (⟨"WaitingWiresModel", "isUnsafe", "(II)Z"⟩, 70), (⟨"WaitingWiresModel", "after", "(II)I"⟩, 70), (⟨"WaitingWiresModel", "stateOf", "(I)I"⟩, 70), (⟨"WaitingWiresModel", "layRight", "()Z"⟩, 70), (⟨"WaitingWiresModel", "layLevels", "(II)Z"⟩, 70), (⟨"WaitingWiresModel", "readyIn", "(I)I"⟩, 70), (⟨"WaitingWiresModel", "excited", "(I)I"⟩, 70), (⟨"WaitingWiresModel", "aims", "(I)I"⟩, 70), (⟨"WaitingWiresModel", "layQuarrels", "()V"⟩, 70), (⟨"WaitingWiresModel", "ownWires", "()I"⟩, 70), (⟨"WaitingWiresModel", "layBacks", "()V"⟩, 70), (⟨"WaitingWiresModel", "layAims", "(I)V"⟩, 70)]
theorem lw_r5 : ∀ q ∈ lw_privs_5, lw_okq q := List.forall_mem_cons.mpr ⟨lw_p64, List.forall_mem_cons.mpr ⟨lw_p65, List.forall_mem_cons.mpr ⟨lw_p66, List.forall_mem_cons.mpr ⟨lw_p67, List.forall_mem_cons.mpr ⟨lw_p68, List.forall_mem_cons.mpr ⟨lw_p69, List.forall_mem_cons.mpr ⟨lw_p70, List.forall_mem_cons.mpr ⟨lw_p71, List.forall_mem_cons.mpr ⟨lw_p72, List.forall_mem_cons.mpr ⟨lw_p73, List.forall_mem_cons.mpr ⟨lw_p74, List.forall_mem_cons.mpr ⟨lw_p75, List.forall_mem_cons.mpr ⟨lw_p76, List.forall_mem_cons.mpr ⟨lw_p77, List.forall_mem_cons.mpr ⟨lw_p78, List.forall_mem_cons.mpr ⟨lw_p79, fun _ h => absurd h List.not_mem_nil⟩⟩⟩⟩⟩⟩⟩⟩⟩⟩⟩⟩⟩⟩⟩⟩
theorem lw_p80 : lw_okq (⟨"WaitingWiresModel", "isOwn", "(I)Z"⟩, 70) := ⟨⟨by decide +kernel, by decide +kernel⟩, List.mem_of_getElem? (i := 1083) (by decide +kernel), List.mem_of_getElem? (i := 1495) (by decide +kernel), List.mem_of_getElem? (i := 1496) (by decide +kernel)⟩
theorem lw_p81 : lw_okq (⟨"WaitingWiresModel", "layMakes", "()V"⟩, 70) := ⟨⟨by decide +kernel, by decide +kernel⟩, List.mem_of_getElem? (i := 1083) (by decide +kernel), List.mem_of_getElem? (i := 1500) (by decide +kernel), List.mem_of_getElem? (i := 1501) (by decide +kernel)⟩
theorem lw_p82 : lw_okq (⟨"WaitingWiresModel", "layCubes", "()V"⟩, 70) := ⟨⟨by decide +kernel, by decide +kernel⟩, List.mem_of_getElem? (i := 1083) (by decide +kernel), List.mem_of_getElem? (i := 1504) (by decide +kernel), List.mem_of_getElem? (i := 1505) (by decide +kernel)⟩
theorem lw_p83 : lw_okq (⟨"WaitingWiresModel", "cubeAll", "()I"⟩, 70) := ⟨⟨by decide +kernel, by decide +kernel⟩, List.mem_of_getElem? (i := 1083) (by decide +kernel), List.mem_of_getElem? (i := 1508) (by decide +kernel), List.mem_of_getElem? (i := 1509) (by decide +kernel)⟩
theorem lw_p84 : lw_okq (⟨"WaitingWiresModel", "levelsOf", "(I)J"⟩, 70) := ⟨⟨by decide +kernel, by decide +kernel⟩, List.mem_of_getElem? (i := 1083) (by decide +kernel), List.mem_of_getElem? (i := 1512) (by decide +kernel), List.mem_of_getElem? (i := 1513) (by decide +kernel)⟩
theorem lw_p85 : lw_okq (⟨"WaitingWiresModel", "lettersOf", "(I)I"⟩, 70) := ⟨⟨by decide +kernel, by decide +kernel⟩, List.mem_of_getElem? (i := 1083) (by decide +kernel), List.mem_of_getElem? (i := 1516) (by decide +kernel), List.mem_of_getElem? (i := 1517) (by decide +kernel)⟩
theorem lw_p86 : lw_okq (⟨"WaitingWiresModel", "canMake", "(JII)Z"⟩, 70) := ⟨⟨by decide +kernel, by decide +kernel⟩, List.mem_of_getElem? (i := 1083) (by decide +kernel), List.mem_of_getElem? (i := 1520) (by decide +kernel), List.mem_of_getElem? (i := 1521) (by decide +kernel)⟩
theorem lw_p87 : lw_okq (⟨"WaitingWiresModel", "isHopeless", "(JII)Z"⟩, 70) := ⟨⟨by decide +kernel, by decide +kernel⟩, List.mem_of_getElem? (i := 1083) (by decide +kernel), List.mem_of_getElem? (i := 1525) (by decide +kernel), List.mem_of_getElem? (i := 1526) (by decide +kernel)⟩
theorem lw_p88 : lw_okq (⟨"WaitingWiresModel", "hardest", "(J)I"⟩, 70) := ⟨⟨by decide +kernel, by decide +kernel⟩, List.mem_of_getElem? (i := 1083) (by decide +kernel), List.mem_of_getElem? (i := 1529) (by decide +kernel), List.mem_of_getElem? (i := 1530) (by decide +kernel)⟩
theorem lw_p89 : lw_okq (⟨"WaitingWiresModel", "cubeAt", "(I)I"⟩, 70) := ⟨⟨by decide +kernel, by decide +kernel⟩, List.mem_of_getElem? (i := 1083) (by decide +kernel), List.mem_of_getElem? (i := 1533) (by decide +kernel), List.mem_of_getElem? (i := 1534) (by decide +kernel)⟩
theorem lw_p90 : lw_okq (⟨"WaitingWiresModel", "isFull", "()Z"⟩, 70) := ⟨⟨by decide +kernel, by decide +kernel⟩, List.mem_of_getElem? (i := 1083) (by decide +kernel), List.mem_of_getElem? (i := 1550) (by decide +kernel), List.mem_of_getElem? (i := 1551) (by decide +kernel)⟩
theorem lw_p91 : lw_okq (⟨"WaitingWiresModel", "tryCure", "(II)I"⟩, 70) := ⟨⟨by decide +kernel, by decide +kernel⟩, List.mem_of_getElem? (i := 1083) (by decide +kernel), List.mem_of_getElem? (i := 1554) (by decide +kernel), List.mem_of_getElem? (i := 1555) (by decide +kernel)⟩
theorem lw_p92 : lw_okq (⟨"WaitingWiresModel", "addCure", "(II)V"⟩, 70) := ⟨⟨by decide +kernel, by decide +kernel⟩, List.mem_of_getElem? (i := 1083) (by decide +kernel), List.mem_of_getElem? (i := 1558) (by decide +kernel), List.mem_of_getElem? (i := 1559) (by decide +kernel)⟩
theorem lw_p93 : lw_okq (⟨"WaitingWiresModel", "addEvent", "(II)V"⟩, 70) := ⟨⟨by decide +kernel, by decide +kernel⟩, List.mem_of_getElem? (i := 1083) (by decide +kernel), List.mem_of_getElem? (i := 1562) (by decide +kernel), List.mem_of_getElem? (i := 1563) (by decide +kernel)⟩
theorem lw_p94 : lw_okq (⟨"WaitingWiresModel", "dropCure", "(II)V"⟩, 70) := ⟨⟨by decide +kernel, by decide +kernel⟩, List.mem_of_getElem? (i := 1083) (by decide +kernel), List.mem_of_getElem? (i := 1566) (by decide +kernel), List.mem_of_getElem? (i := 1567) (by decide +kernel)⟩
theorem lw_p95 : lw_okq (⟨"WaitingWiresModel", "isGraph", "()Z"⟩, 70) := ⟨⟨by decide +kernel, by decide +kernel⟩, List.mem_of_getElem? (i := 1083) (by decide +kernel), List.mem_of_getElem? (i := 1587) (by decide +kernel), List.mem_of_getElem? (i := 1588) (by decide +kernel)⟩
def lw_privs_6 : List (MethodName × Nat) := [(⟨"WaitingWiresModel", "isOwn", "(I)Z"⟩, 70), (⟨"WaitingWiresModel", "layMakes", "()V"⟩, 70), (⟨"WaitingWiresModel", "layCubes", "()V"⟩, 70), (⟨"WaitingWiresModel", "cubeAll", "()I"⟩, 70), (⟨"WaitingWiresModel", "levelsOf", "(I)J"⟩, 70), (⟨"WaitingWiresModel", "lettersOf", "(I)I"⟩, 70), (⟨"WaitingWiresModel", "canMake", "(JII)Z"⟩, 70), (⟨"WaitingWiresModel", "isHopeless", "(JII)Z"⟩, 70), (⟨"WaitingWiresModel", "hardest", "(J)I"⟩, 70), (⟨"WaitingWiresModel", "cubeAt", "(I)I"⟩, 70), (⟨"WaitingWiresModel", "isFull", "()Z"⟩, 70), (⟨"WaitingWiresModel", "tryCure", "(II)I"⟩, 70), (⟨"WaitingWiresModel", "addCure", "(II)V"⟩, 70), (⟨"WaitingWiresModel", "addEvent", "(II)V"⟩, 70), (⟨"WaitingWiresModel", "dropCure", "(II)V"⟩, 70), (⟨"WaitingWiresModel", "isGraph", "()Z"⟩, 70)]
theorem lw_r6 : ∀ q ∈ lw_privs_6, lw_okq q := List.forall_mem_cons.mpr ⟨lw_p80, List.forall_mem_cons.mpr ⟨lw_p81, List.forall_mem_cons.mpr ⟨lw_p82, List.forall_mem_cons.mpr ⟨lw_p83, List.forall_mem_cons.mpr ⟨lw_p84, List.forall_mem_cons.mpr ⟨lw_p85, List.forall_mem_cons.mpr ⟨lw_p86, List.forall_mem_cons.mpr ⟨lw_p87, List.forall_mem_cons.mpr ⟨lw_p88, List.forall_mem_cons.mpr ⟨lw_p89, List.forall_mem_cons.mpr ⟨lw_p90, List.forall_mem_cons.mpr ⟨lw_p91, List.forall_mem_cons.mpr ⟨lw_p92, List.forall_mem_cons.mpr ⟨lw_p93, List.forall_mem_cons.mpr ⟨lw_p94, List.forall_mem_cons.mpr ⟨lw_p95, fun _ h => absurd h List.not_mem_nil⟩⟩⟩⟩⟩⟩⟩⟩⟩⟩⟩⟩⟩⟩⟩⟩
theorem lw_p96 : lw_okq (⟨"WaitingWiresModel", "layWays", "(JJZ)V"⟩, 70) := ⟨⟨by decide +kernel, by decide +kernel⟩, List.mem_of_getElem? (i := 1083) (by decide +kernel), List.mem_of_getElem? (i := 1597) (by decide +kernel), List.mem_of_getElem? (i := 1598) (by decide +kernel)⟩
theorem lw_p97 : lw_okq (⟨"WaitingWiresModel", "hasRing", "(II)Z"⟩, 70) := ⟨⟨by decide +kernel, by decide +kernel⟩, List.mem_of_getElem? (i := 1083) (by decide +kernel), List.mem_of_getElem? (i := 1603) (by decide +kernel), List.mem_of_getElem? (i := 1604) (by decide +kernel)⟩
theorem lw_p98 : lw_okq (⟨"WaitingWiresModel", "layEnds", "(I)V"⟩, 70) := ⟨⟨by decide +kernel, by decide +kernel⟩, List.mem_of_getElem? (i := 1083) (by decide +kernel), List.mem_of_getElem? (i := 1615) (by decide +kernel), List.mem_of_getElem? (i := 1616) (by decide +kernel)⟩
def lw_privs_7 : List (MethodName × Nat) := [(⟨"WaitingWiresModel", "layWays", "(JJZ)V"⟩, 70), (⟨"WaitingWiresModel", "hasRing", "(II)Z"⟩, 70), (⟨"WaitingWiresModel", "layEnds", "(I)V"⟩, 70)]
theorem lw_r7 : ∀ q ∈ lw_privs_7, lw_okq q := List.forall_mem_cons.mpr ⟨lw_p96, List.forall_mem_cons.mpr ⟨lw_p97, List.forall_mem_cons.mpr ⟨lw_p98, fun _ h => absurd h List.not_mem_nil⟩⟩⟩
def lw_privs : List (MethodName × Nat) := lw_privs_1 ++ (lw_privs_2 ++ (lw_privs_3 ++ (lw_privs_4 ++ (lw_privs_5 ++ (lw_privs_6 ++ (lw_privs_7))))))
def lw_tbl : List Cond := k2_sels lw_privs ++ tables_1
theorem lw_privs_ok : ∀ q ∈ lw_privs, lw_okq q := by
  show ∀ q ∈ lw_privs_1 ++ (lw_privs_2 ++ (lw_privs_3 ++ (lw_privs_4 ++ (lw_privs_5 ++ (lw_privs_6 ++ (lw_privs_7)))))), lw_okq q
  exact List.forall_mem_append.mpr ⟨lw_r1, List.forall_mem_append.mpr ⟨lw_r2, List.forall_mem_append.mpr ⟨lw_r3, List.forall_mem_append.mpr ⟨lw_r4, List.forall_mem_append.mpr ⟨lw_r5, List.forall_mem_append.mpr ⟨lw_r6, lw_r7⟩⟩⟩⟩⟩⟩
end
section
def RX0 : String := "WaitingWires$Clashes"
def TX0 : u_T := fun k => match k with
  | 0 => ("WaitingWires$Clashes", "alike", "I", false)
  | 1 => ("WaitingWires$Clashes", "unlikeAims", "I", false)
  | 2 => ("WaitingWires$Clashes", "lessState", "I", false)
  | 3 => ("WaitingWires$Clashes", "greaterState", "I", false)
  | 4 => ("WaitingWires$Clashes", "takenBack", "I", false)
  | 5 => ("WaitingWires$Clashes", "backState", "I", false)
  | 6 => ("WaitingWires$Clashes", "backEvent", "I", false)
  | 7 => ("WaitingWires$Clashes", "backOther", "I", false)
  | 8 => ("WaitingWires$Clashes", "heads", "[I", true)
  | _ => ("WaitingWires$Clashes", "links", "[I", true)
def tyX0 : Nat → FieldType := fun k => match k with
  | 0 => .int
  | 1 => .int
  | 2 => .int
  | 3 => .int
  | 4 => .int
  | 5 => .int
  | 6 => .int
  | 7 => .int
  | 8 => .array .int
  | _ => .array .int
abbrev wsX00 : List Cond := u_ws RX0 TX0 10
theorem nmX0 : ∀ a, a < 10 → ∀ b, b < 10 → a ≠ b → (TX0 a).2.1 ≠ (TX0 b).2.1 := by decide +kernel
theorem tyX0_ok : ∀ k, k < 10 → parseFieldDescriptor (TX0 k).2.2.1 = some (tyX0 k) := by decide +kernel
abbrev cX0_init : ByteArray := prog_2_method_1_code
def yX0_init : MethodName := ⟨RX0, "<init>", "()V"⟩
abbrev cX0_find : ByteArray := prog_2_method_2_code
def yX0_find : MethodName := ⟨RX0, "find", "(LWaitingWires$Net;LWaitingWires$Space;)V"⟩
abbrev cX0_findQuarrels : ByteArray := prog_2_method_3_code
def yX0_findQuarrels : MethodName := ⟨RX0, "findQuarrels", "(ILWaitingWires$Space;)V"⟩
abbrev cX0_addQuarrel : ByteArray := prog_2_method_4_code
def yX0_addQuarrel : MethodName := ⟨RX0, "addQuarrel", "(II)V"⟩
abbrev cX0_findTakenBack : ByteArray := prog_2_method_5_code
def yX0_findTakenBack : MethodName := ⟨RX0, "findTakenBack", "(LWaitingWires$Net;ILWaitingWires$Space;)V"⟩
abbrev cX0_addTakenBack : ByteArray := prog_2_method_6_code
def yX0_addTakenBack : MethodName := ⟨RX0, "addTakenBack", "(LWaitingWires$Net;IIII)V"⟩
def RX1 : String := "WaitingWires$Cover"
def TX1 : u_T := fun k => match k with
  | 0 => ("WaitingWires$Cover", "chosen", "[I", true)
  | 1 => ("WaitingWires$Cover", "primes", "I", false)
  | 2 => ("WaitingWires$Cover", "cube", "[I", true)
  | 3 => ("WaitingWires$Cover", "weight", "[I", true)
  | 4 => ("WaitingWires$Cover", "levels", "[J", true)
  | 5 => ("WaitingWires$Cover", "choices", "[I", true)
  | 6 => ("WaitingWires$Cover", "lightest", "[I", true)
  | 7 => ("WaitingWires$Cover", "reach", "[J", true)
  | 8 => ("WaitingWires$Cover", "order", "[I", true)
  | _ => ("WaitingWires$Cover", "ordered", "I", false)
def tyX1 : Nat → FieldType := fun k => match k with
  | 0 => .array .int
  | 1 => .int
  | 2 => .array .int
  | 3 => .array .int
  | 4 => .array .long
  | 5 => .array .int
  | 6 => .array .int
  | 7 => .array .long
  | 8 => .array .int
  | _ => .int
abbrev wsX10 : List Cond := u_ws RX1 TX1 10
theorem nmX1 : ∀ a, a < 10 → ∀ b, b < 10 → a ≠ b → (TX1 a).2.1 ≠ (TX1 b).2.1 := by decide +kernel
theorem tyX1_ok : ∀ k, k < 10 → parseFieldDescriptor (TX1 k).2.2.1 = some (tyX1 k) := by decide +kernel
abbrev cX1_init : ByteArray := prog_3_method_1_code
def yX1_init : MethodName := ⟨RX1, "<init>", "()V"⟩
abbrev cX1_gatherPrimes : ByteArray := prog_3_method_2_code
def yX1_gatherPrimes : MethodName := ⟨RX1, "gatherPrimes", "(JJII)V"⟩
abbrev cX1_isPrime : ByteArray := prog_3_method_3_code
def yX1_isPrime : MethodName := ⟨RX1, "isPrime", "(IJJI)Z"⟩
abbrev cX1_weighLevels : ByteArray := prog_3_method_4_code
def yX1_weighLevels : MethodName := ⟨RX1, "weighLevels", "(J)V"⟩
abbrev cX1_putInOrder : ByteArray := prog_3_method_5_code
def yX1_putInOrder : MethodName := ⟨RX1, "putInOrder", "(I)V"⟩
abbrev cX1_choose : ByteArray := prog_3_method_6_code
def yX1_choose : MethodName := ⟨RX1, "choose", "(J)I"⟩
abbrev cX1_firstThatCanDo : ByteArray := prog_3_method_7_code
def yX1_firstThatCanDo : MethodName := ⟨RX1, "firstThatCanDo", "(JII)I"⟩
abbrev cX1_leastWeight : ByteArray := prog_3_method_8_code
def yX1_leastWeight : MethodName := ⟨RX1, "leastWeight", "(LWaitingWires$Cover;JII)I"⟩
abbrev cX1_weightAtLeast : ByteArray := prog_3_method_9_code
def yX1_weightAtLeast : MethodName := ⟨RX1, "weightAtLeast", "(J)I"⟩
abbrev cX1_hardest : ByteArray := prog_3_method_10_code
def yX1_hardest : MethodName := ⟨RX1, "hardest", "(J)I"⟩
abbrev cX1_isOutdone : ByteArray := prog_3_method_11_code
def yX1_isOutdone : MethodName := ⟨RX1, "isOutdone", "(IIJ)Z"⟩
def RX2 : String := "WaitingWires$Hand"
def TX2 : u_T := fun k => match k with
  | 0 => ("WaitingWires$Hand", "size", "I", false)
  | 1 => ("WaitingWires$Hand", "events", "[I", true)
  | _ => ("WaitingWires$Hand", "markings", "[I", true)
def tyX2 : Nat → FieldType := fun k => match k with
  | 0 => .int
  | 1 => .array .int
  | _ => .array .int
abbrev wsX20 : List Cond := u_ws RX2 TX2 3
theorem nmX2 : ∀ a, a < 3 → ∀ b, b < 3 → a ≠ b → (TX2 a).2.1 ≠ (TX2 b).2.1 := by decide +kernel
theorem tyX2_ok : ∀ k, k < 3 → parseFieldDescriptor (TX2 k).2.2.1 = some (tyX2 k) := by decide +kernel
abbrev cX2_init : ByteArray := prog_4_method_1_code
def yX2_init : MethodName := ⟨RX2, "<init>", "()V"⟩
abbrev cX2_markingOf : ByteArray := prog_4_method_2_code
def yX2_markingOf : MethodName := ⟨RX2, "markingOf", "(LWaitingWires$Net;)I"⟩
abbrev cX2_latest : ByteArray := prog_4_method_3_code
def yX2_latest : MethodName := ⟨RX2, "latest", "()I"⟩
abbrev cX2_add : ByteArray := prog_4_method_4_code
def yX2_add : MethodName := ⟨RX2, "add", "(II)Z"⟩
abbrev cX2_dropLatest : ByteArray := prog_4_method_5_code
def yX2_dropLatest : MethodName := ⟨RX2, "dropLatest", "()Z"⟩
def RX3 : String := "WaitingWires$Net"
def TX3 : u_T := fun k => match k with
  | 0 => ("WaitingWires$Net", "wires", "I", false)
  | 1 => ("WaitingWires$Net", "events", "I", false)
  | 2 => ("WaitingWires$Net", "places", "I", false)
  | 3 => ("WaitingWires$Net", "letter", "[I", true)
  | 4 => ("WaitingWires$Net", "kind", "[I", true)
  | 5 => ("WaitingWires$Net", "wireOf", "[I", true)
  | 6 => ("WaitingWires$Net", "rises", "[I", true)
  | 7 => ("WaitingWires$Net", "index", "[I", true)
  | 8 => ("WaitingWires$Net", "takes", "[I", true)
  | 9 => ("WaitingWires$Net", "feeds", "[I", true)
  | 10 => ("WaitingWires$Net", "delayOf", "[I", true)
  | 11 => ("WaitingWires$Net", "fedBy", "[I", true)
  | 12 => ("WaitingWires$Net", "takenBy", "[I", true)
  | _ => ("WaitingWires$Net", "first", "I", false)
def tyX3 : Nat → FieldType := fun k => match k with
  | 0 => .int
  | 1 => .int
  | 2 => .int
  | 3 => .array .int
  | 4 => .array .int
  | 5 => .array .int
  | 6 => .array .int
  | 7 => .array .int
  | 8 => .array .int
  | 9 => .array .int
  | 10 => .array .int
  | 11 => .array .int
  | 12 => .array .int
  | _ => .int
abbrev wsX30 : List Cond := u_ws RX3 TX3 14
theorem nmX3 : ∀ a, a < 14 → ∀ b, b < 14 → a ≠ b → (TX3 a).2.1 ≠ (TX3 b).2.1 := by decide +kernel
theorem tyX3_ok : ∀ k, k < 14 → parseFieldDescriptor (TX3 k).2.2.1 = some (tyX3 k) := by decide +kernel
abbrev cX3_init : ByteArray := prog_5_method_1_code
def yX3_init : MethodName := ⟨RX3, "<init>", "()V"⟩
abbrev cX3_clear : ByteArray := prog_5_method_2_code
def yX3_clear : MethodName := ⟨RX3, "clear", "()V"⟩
abbrev cX3_copyFrom : ByteArray := prog_5_method_3_code
def yX3_copyFrom : MethodName := ⟨RX3, "copyFrom", "(LWaitingWires$Net;)V"⟩
abbrev cX3_hasWire : ByteArray := prog_5_method_4_code
def yX3_hasWire : MethodName := ⟨RX3, "hasWire", "(I)Z"⟩
abbrev cX3_hasEvent : ByteArray := prog_5_method_5_code
def yX3_hasEvent : MethodName := ⟨RX3, "hasEvent", "(I)Z"⟩
abbrev cX3_hasPlace : ByteArray := prog_5_method_6_code
def yX3_hasPlace : MethodName := ⟨RX3, "hasPlace", "(I)Z"⟩
abbrev cX3_isMade : ByteArray := prog_5_method_7_code
def yX3_isMade : MethodName := ⟨RX3, "isMade", "(I)Z"⟩
abbrev cX3_madeWires : ByteArray := prog_5_method_8_code
def yX3_madeWires : MethodName := ⟨RX3, "madeWires", "()I"⟩
abbrev cX3_eventsOf : ByteArray := prog_5_method_9_code
def yX3_eventsOf : MethodName := ⟨RX3, "eventsOf", "(I)I"⟩
abbrev cX3_wireCalled : ByteArray := prog_5_method_10_code
def yX3_wireCalled : MethodName := ⟨RX3, "wireCalled", "(I)I"⟩
abbrev cX3_eventLike : ByteArray := prog_5_method_11_code
def yX3_eventLike : MethodName := ⟨RX3, "eventLike", "(III)I"⟩
abbrev cX3_addWire : ByteArray := prog_5_method_12_code
def yX3_addWire : MethodName := ⟨RX3, "addWire", "(II)I"⟩
abbrev cX3_addEvent : ByteArray := prog_5_method_13_code
def yX3_addEvent : MethodName := ⟨RX3, "addEvent", "(III)I"⟩
abbrev cX3_addPlace : ByteArray := prog_5_method_14_code
def yX3_addPlace : MethodName := ⟨RX3, "addPlace", "(III)V"⟩
abbrev cX3_isReady : ByteArray := prog_5_method_15_code
def yX3_isReady : MethodName := ⟨RX3, "isReady", "(II)Z"⟩
abbrev cX3_isUnsafe : ByteArray := prog_5_method_16_code
def yX3_isUnsafe : MethodName := ⟨RX3, "isUnsafe", "(II)Z"⟩
abbrev cX3_canCome : ByteArray := prog_5_method_17_code
def yX3_canCome : MethodName := ⟨RX3, "canCome", "(II)Z"⟩
abbrev cX3_after : ByteArray := prog_5_method_18_code
def yX3_after : MethodName := ⟨RX3, "after", "(II)I"⟩
abbrev cX3_readyAt : ByteArray := prog_5_method_19_code
def yX3_readyAt : MethodName := ⟨RX3, "readyAt", "(I)I"⟩
abbrev cX3_hasRoomForCure : ByteArray := prog_5_method_20_code
def yX3_hasRoomForCure : MethodName := ⟨RX3, "hasRoomForCure", "()Z"⟩
abbrev cX3_addWireBehind : ByteArray := prog_5_method_21_code
def yX3_addWireBehind : MethodName := ⟨RX3, "addWireBehind", "(II)V"⟩
abbrev cX3_handOver : ByteArray := prog_5_method_22_code
def yX3_handOver : MethodName := ⟨RX3, "handOver", "(II)V"⟩
abbrev cX3_freeLetter : ByteArray := prog_5_method_23_code
def yX3_freeLetter : MethodName := ⟨RX3, "freeLetter", "()I"⟩
def RX4 : String := "WaitingWires$Reader"
def TX4 : u_T := fun k => match k with
  | 0 => ("WaitingWires$Reader", "tape", "[B", true)
  | 1 => ("WaitingWires$Reader", "length", "I", false)
  | 2 => ("WaitingWires$Reader", "fault", "I", false)
  | 3 => ("WaitingWires$Reader", "faultAt", "I", false)
  | 4 => ("WaitingWires$Reader", "position", "I", false)
  | 5 => ("WaitingWires$Reader", "sort", "I", false)
  | 6 => ("WaitingWires$Reader", "at", "I", false)
  | 7 => ("WaitingWires$Reader", "byteAt", "I", false)
  | _ => ("WaitingWires$Reader", "net", "LWaitingWires$Net;", false)
def tyX4 : Nat → FieldType := fun k => match k with
  | 0 => .array .byte
  | 1 => .int
  | 2 => .int
  | 3 => .int
  | 4 => .int
  | 5 => .int
  | 6 => .int
  | 7 => .int
  | _ => .object "WaitingWires$Net"
abbrev wsX40 : List Cond := u_ws RX4 TX4 9
theorem nmX4 : ∀ a, a < 9 → ∀ b, b < 9 → a ≠ b → (TX4 a).2.1 ≠ (TX4 b).2.1 := by decide +kernel
theorem tyX4_ok : ∀ k, k < 9 → parseFieldDescriptor (TX4 k).2.2.1 = some (tyX4 k) := by decide +kernel
abbrev cX4_init : ByteArray := prog_6_method_1_code
def yX4_init : MethodName := ⟨RX4, "<init>", "()V"⟩
abbrev cX4_append : ByteArray := prog_6_method_2_code
def yX4_append : MethodName := ⟨RX4, "append", "(J)Z"⟩
abbrev cX4_readInto : ByteArray := prog_6_method_3_code
def yX4_readInto : MethodName := ⟨RX4, "readInto", "(LWaitingWires$Net;)Z"⟩
abbrev cX4_readLine : ByteArray := prog_6_method_4_code
def yX4_readLine : MethodName := ⟨RX4, "readLine", "()V"⟩
abbrev cX4_readWire : ByteArray := prog_6_method_5_code
def yX4_readWire : MethodName := ⟨RX4, "readWire", "(I)V"⟩
abbrev cX4_readPlace : ByteArray := prog_6_method_6_code
def yX4_readPlace : MethodName := ⟨RX4, "readPlace", "()V"⟩
abbrev cX4_readEvent : ByteArray := prog_6_method_7_code
def yX4_readEvent : MethodName := ⟨RX4, "readEvent", "(I)I"⟩
abbrev cX4_readIndex : ByteArray := prog_6_method_8_code
def yX4_readIndex : MethodName := ⟨RX4, "readIndex", "()I"⟩
abbrev cX4_numberOf : ByteArray := prog_6_method_9_code
def yX4_numberOf : MethodName := ⟨RX4, "numberOf", "(III)I"⟩
abbrev cX4_takeSign : ByteArray := prog_6_method_10_code
def yX4_takeSign : MethodName := ⟨RX4, "takeSign", "(C)V"⟩
abbrev cX4_take : ByteArray := prog_6_method_11_code
def yX4_take : MethodName := ⟨RX4, "take", "()V"⟩
abbrev cX4_refuse : ByteArray := prog_6_method_12_code
def yX4_refuse : MethodName := ⟨RX4, "refuse", "(II)V"⟩
abbrev cX4_isLetter : ByteArray := prog_6_method_13_code
def yX4_isLetter : MethodName := ⟨RX4, "isLetter", "()Z"⟩
abbrev cX4_isSign : ByteArray := prog_6_method_14_code
def yX4_isSign : MethodName := ⟨RX4, "isSign", "(C)Z"⟩
abbrev cX4_isWord : ByteArray := prog_6_method_15_code
def yX4_isWord : MethodName := ⟨RX4, "isWord", "(Ljava/lang/String;)Z"⟩
abbrev cX4_isSmallLetter : ByteArray := prog_6_method_16_code
def yX4_isSmallLetter : MethodName := ⟨RX4, "isSmallLetter", "(I)Z"⟩
abbrev cX4_isFigure : ByteArray := prog_6_method_17_code
def yX4_isFigure : MethodName := ⟨RX4, "isFigure", "(I)Z"⟩
def RX5 : String := "WaitingWires$Rings"
def TX5 : u_T := fun k => match k with
  | 0 => ("WaitingWires$Rings", "sound", "Z", false)
  | 1 => ("WaitingWires$Rings", "numerator", "I", false)
  | 2 => ("WaitingWires$Rings", "denominator", "I", false)
  | 3 => ("WaitingWires$Rings", "onBeat", "I", false)
  | 4 => ("WaitingWires$Rings", "feeder", "[I", true)
  | 5 => ("WaitingWires$Rings", "taker", "[I", true)
  | 6 => ("WaitingWires$Rings", "order", "[I", true)
  | 7 => ("WaitingWires$Rings", "ordered", "I", false)
  | 8 => ("WaitingWires$Rings", "ways", "[I", false)
  | 9 => ("WaitingWires$Rings", "waysBefore", "[I", false)
  | _ => ("WaitingWires$Rings", "closed", "[I", true)
def tyX5 : Nat → FieldType := fun k => match k with
  | 0 => .boolean
  | 1 => .int
  | 2 => .int
  | 3 => .int
  | 4 => .array .int
  | 5 => .array .int
  | 6 => .array .int
  | 7 => .int
  | 8 => .array .int
  | 9 => .array .int
  | _ => .array .int
abbrev wsX50 : List Cond := u_ws RX5 TX5 11
theorem nmX5 : ∀ a, a < 11 → ∀ b, b < 11 → a ≠ b → (TX5 a).2.1 ≠ (TX5 b).2.1 := by decide +kernel
theorem tyX5_ok : ∀ k, k < 11 → parseFieldDescriptor (TX5 k).2.2.1 = some (tyX5 k) := by decide +kernel
abbrev cX5_init : ByteArray := prog_7_method_1_code
def yX5_init : MethodName := ⟨RX5, "<init>", "()V"⟩
abbrev cX5_find : ByteArray := prog_7_method_2_code
def yX5_find : MethodName := ⟨RX5, "find", "(LWaitingWires$Net;)V"⟩
abbrev cX5_findEnds : ByteArray := prog_7_method_3_code
def yX5_findEnds : MethodName := ⟨RX5, "findEnds", "(LWaitingWires$Net;)Z"⟩
abbrev cX5_putInOrder : ByteArray := prog_7_method_4_code
def yX5_putInOrder : MethodName := ⟨RX5, "putInOrder", "(LWaitingWires$Net;)Z"⟩
abbrev cX5_waitsForNone : ByteArray := prog_7_method_5_code
def yX5_waitsForNone : MethodName := ⟨RX5, "waitsForNone", "(LWaitingWires$Net;II)Z"⟩
abbrev cX5_findClosedWays : ByteArray := prog_7_method_6_code
def yX5_findClosedWays : MethodName := ⟨RX5, "findClosedWays", "(LWaitingWires$Net;I)V"⟩
abbrev cX5_turnWays : ByteArray := prog_7_method_7_code
def yX5_turnWays : MethodName := ⟨RX5, "turnWays", "()V"⟩
abbrev cX5_goOnWithoutToken : ByteArray := prog_7_method_8_code
def yX5_goOnWithoutToken : MethodName := ⟨RX5, "goOnWithoutToken", "(LWaitingWires$Net;)V"⟩
abbrev cX5_lengthen : ByteArray := prog_7_method_9_code
def yX5_lengthen : MethodName := ⟨RX5, "lengthen", "([ILWaitingWires$Net;I)V"⟩
abbrev cX5_findBeat : ByteArray := prog_7_method_10_code
def yX5_findBeat : MethodName := ⟨RX5, "findBeat", "(I)V"⟩
abbrev cX5_reduce : ByteArray := prog_7_method_11_code
def yX5_reduce : MethodName := ⟨RX5, "reduce", "()V"⟩
abbrev cX5_endOf : ByteArray := prog_7_method_12_code
def yX5_endOf : MethodName := ⟨RX5, "endOf", "(LWaitingWires$Net;II)I"⟩
abbrev cX5_beginOf : ByteArray := prog_7_method_13_code
def yX5_beginOf : MethodName := ⟨RX5, "beginOf", "(LWaitingWires$Net;I)I"⟩
def RX6 : String := "WaitingWires$Sheet"
def TX6 : u_T := fun k => match k with
  | 0 => ("WaitingWires$Sheet", "size", "I", false)
  | 1 => ("WaitingWires$Sheet", "cells", "[I", true)
  | _ => ("WaitingWires$Sheet", "lane", "I", false)
def tyX6 : Nat → FieldType := fun k => match k with
  | 0 => .int
  | 1 => .array .int
  | _ => .int
abbrev wsX60 : List Cond := u_ws RX6 TX6 3
theorem nmX6 : ∀ a, a < 3 → ∀ b, b < 3 → a ≠ b → (TX6 a).2.1 ≠ (TX6 b).2.1 := by decide +kernel
theorem tyX6_ok : ∀ k, k < 3 → parseFieldDescriptor (TX6 k).2.2.1 = some (tyX6 k) := by decide +kernel
abbrev cX6_init : ByteArray := prog_8_method_1_code
def yX6_init : MethodName := ⟨RX6, "<init>", "()V"⟩
abbrev cX6_isNothing : ByteArray := prog_8_method_2_code
def yX6_isNothing : MethodName := ⟨RX6, "isNothing", "()Z"⟩
abbrev cX6_renew : ByteArray := prog_8_method_3_code
def yX6_renew : MethodName := ⟨RX6, "renew", "(II)V"⟩
abbrev cX6_faultAs : ByteArray := prog_8_method_4_code
def yX6_faultAs : MethodName := ⟨RX6, "faultAs", "(I)I"⟩
abbrev cX6_hasCells : ByteArray := prog_8_method_5_code
def yX6_hasCells : MethodName := ⟨RX6, "hasCells", "(II)Z"⟩
abbrev cX6_put : ByteArray := prog_8_method_6_code
def yX6_put : MethodName := ⟨RX6, "put", "(II)V"⟩
def RX7 : String := "WaitingWires$Space"
def TX7 : u_T := fun k => match k with
  | 0 => ("WaitingWires$Space", "size", "I", false)
  | 1 => ("WaitingWires$Space", "outcome", "I", false)
  | 2 => ("WaitingWires$Space", "came", "I", false)
  | 3 => ("WaitingWires$Space", "right", "Z", false)
  | 4 => ("WaitingWires$Space", "marking", "[I", true)
  | 5 => ("WaitingWires$Space", "ready", "[I", true)
  | 6 => ("WaitingWires$Space", "level", "[I", true)
  | 7 => ("WaitingWires$Space", "excited", "[I", true)
  | 8 => ("WaitingWires$Space", "next", "[I", true)
  | 9 => ("WaitingWires$Space", "slots", "[I", true)
  | 10 => ("WaitingWires$Space", "home", "[I", true)
  | _ => ("WaitingWires$Space", "strays", "I", false)
def tyX7 : Nat → FieldType := fun k => match k with
  | 0 => .int
  | 1 => .int
  | 2 => .int
  | 3 => .boolean
  | 4 => .array .int
  | 5 => .array .int
  | 6 => .array .int
  | 7 => .array .int
  | 8 => .array .int
  | 9 => .array .int
  | 10 => .array .int
  | _ => .int
abbrev wsX70 : List Cond := u_ws RX7 TX7 12
theorem nmX7 : ∀ a, a < 12 → ∀ b, b < 12 → a ≠ b → (TX7 a).2.1 ≠ (TX7 b).2.1 := by decide +kernel
theorem tyX7_ok : ∀ k, k < 12 → parseFieldDescriptor (TX7 k).2.2.1 = some (tyX7 k) := by decide +kernel
abbrev cX7_init : ByteArray := prog_9_method_1_code
def yX7_init : MethodName := ⟨RX7, "<init>", "()V"⟩
abbrev cX7_explore : ByteArray := prog_9_method_2_code
def yX7_explore : MethodName := ⟨RX7, "explore", "(LWaitingWires$Net;)V"⟩
abbrev cX7_aims : ByteArray := prog_9_method_3_code
def yX7_aims : MethodName := ⟨RX7, "aims", "(I)I"⟩
abbrev cX7_behind : ByteArray := prog_9_method_4_code
def yX7_behind : MethodName := ⟨RX7, "behind", "(II)I"⟩
abbrev cX7_ends : ByteArray := prog_9_method_5_code
def yX7_ends : MethodName := ⟨RX7, "ends", "()I"⟩
abbrev cX7_astray : ByteArray := prog_9_method_6_code
def yX7_astray : MethodName := ⟨RX7, "astray", "()I"⟩
abbrev cX7_findHome : ByteArray := prog_9_method_7_code
def yX7_findHome : MethodName := ⟨RX7, "findHome", "()I"⟩
abbrev cX7_leadsHome : ByteArray := prog_9_method_8_code
def yX7_leadsHome : MethodName := ⟨RX7, "leadsHome", "(I)Z"⟩
abbrev cX7_expand : ByteArray := prog_9_method_9_code
def yX7_expand : MethodName := ⟨RX7, "expand", "(LWaitingWires$Net;I)V"⟩
abbrev cX7_meet : ByteArray := prog_9_method_10_code
def yX7_meet : MethodName := ⟨RX7, "meet", "(II)I"⟩
abbrev cX7_tellLevels : ByteArray := prog_9_method_11_code
def yX7_tellLevels : MethodName := ⟨RX7, "tellLevels", "(LWaitingWires$Net;)Z"⟩
def RX8 : String := "WaitingWires$Sums"
def TX8 : u_T := fun k => match k with
  | 0 => ("WaitingWires$Sums", "on", "[J", true)
  | 1 => ("WaitingWires$Sums", "off", "[J", true)
  | 2 => ("WaitingWires$Sums", "size", "[I", true)
  | 3 => ("WaitingWires$Sums", "letters", "[I", true)
  | 4 => ("WaitingWires$Sums", "cubes", "[I", true)
  | 5 => ("WaitingWires$Sums", "cover", "LWaitingWires$Cover;", true)
  | 6 => ("WaitingWires$Sums", "wires", "I", false)
  | 7 => ("WaitingWires$Sums", "cubesInAll", "I", false)
  | _ => ("WaitingWires$Sums", "solved", "I", false)
def tyX8 : Nat → FieldType := fun k => match k with
  | 0 => .array .long
  | 1 => .array .long
  | 2 => .array .int
  | 3 => .array .int
  | 4 => .array .int
  | 5 => .object "WaitingWires$Cover"
  | 6 => .int
  | 7 => .int
  | _ => .int
abbrev wsX80 : List Cond := u_ws RX8 TX8 9
theorem nmX8 : ∀ a, a < 9 → ∀ b, b < 9 → a ≠ b → (TX8 a).2.1 ≠ (TX8 b).2.1 := by decide +kernel
theorem tyX8_ok : ∀ k, k < 9 → parseFieldDescriptor (TX8 k).2.2.1 = some (tyX8 k) := by decide +kernel
abbrev cX8_init : ByteArray := prog_10_method_1_code
def yX8_init : MethodName := ⟨RX8, "<init>", "()V"⟩
abbrev cX8_gather : ByteArray := prog_10_method_2_code
def yX8_gather : MethodName := ⟨RX8, "gather", "(ILWaitingWires$Space;)V"⟩
abbrev cX8_hasUnlikeAims : ByteArray := prog_10_method_3_code
def yX8_hasUnlikeAims : MethodName := ⟨RX8, "hasUnlikeAims", "(I)Z"⟩
abbrev cX8_isCube : ByteArray := prog_10_method_4_code
def yX8_isCube : MethodName := ⟨RX8, "isCube", "(I)Z"⟩
abbrev cX8_cube : ByteArray := prog_10_method_5_code
def yX8_cube : MethodName := ⟨RX8, "cube", "(II)I"⟩
abbrev cX8_solve : ByteArray := prog_10_method_6_code
def yX8_solve : MethodName := ⟨RX8, "solve", "(I)V"⟩
abbrev cX8_levelsIn : ByteArray := prog_10_method_7_code
def yX8_levelsIn : MethodName := ⟨RX8, "levelsIn", "(II)J"⟩
abbrev cX8_lettersOf : ByteArray := prog_10_method_8_code
def yX8_lettersOf : MethodName := ⟨RX8, "lettersOf", "(II)I"⟩
def RX9 : String := "WaitingWires"
def TX9 : u_T := fun k => match k with
  | 0 => ("WaitingWires", "reader", "LWaitingWires$Reader;", true)
  | 1 => ("WaitingWires", "space", "LWaitingWires$Space;", true)
  | 2 => ("WaitingWires", "clashes", "LWaitingWires$Clashes;", true)
  | 3 => ("WaitingWires", "sums", "LWaitingWires$Sums;", true)
  | 4 => ("WaitingWires", "rings", "LWaitingWires$Rings;", true)
  | 5 => ("WaitingWires", "hand", "LWaitingWires$Hand;", true)
  | 6 => ("WaitingWires", "sheets", "[LWaitingWires$Sheet;", true)
  | 7 => ("WaitingWires", "net", "LWaitingWires$Net;", false)
  | 8 => ("WaitingWires", "tried", "LWaitingWires$Net;", false)
  | 9 => ("WaitingWires", "triedSpace", "LWaitingWires$Space;", true)
  | 10 => ("WaitingWires", "triedClashes", "LWaitingWires$Clashes;", true)
  | 11 => ("WaitingWires", "explored", "Z", false)
  | 12 => ("WaitingWires", "clashed", "Z", false)
  | 13 => ("WaitingWires", "summed", "Z", false)
  | 14 => ("WaitingWires", "ringed", "Z", false)
  | 15 => ("WaitingWires", "firstCure", "I", false)
  | _ => ("WaitingWires", "allCures", "I", false)
def tyX9 : Nat → FieldType := fun k => match k with
  | 0 => .object "WaitingWires$Reader"
  | 1 => .object "WaitingWires$Space"
  | 2 => .object "WaitingWires$Clashes"
  | 3 => .object "WaitingWires$Sums"
  | 4 => .object "WaitingWires$Rings"
  | 5 => .object "WaitingWires$Hand"
  | 6 => .array (.object "WaitingWires$Sheet")
  | 7 => .object "WaitingWires$Net"
  | 8 => .object "WaitingWires$Net"
  | 9 => .object "WaitingWires$Space"
  | 10 => .object "WaitingWires$Clashes"
  | 11 => .boolean
  | 12 => .boolean
  | 13 => .boolean
  | 14 => .boolean
  | 15 => .int
  | _ => .int
abbrev wsX90 : List Cond := u_ws RX9 TX9 17
theorem nmX9 : ∀ a, a < 17 → ∀ b, b < 17 → a ≠ b → (TX9 a).2.1 ≠ (TX9 b).2.1 := by decide +kernel
theorem tyX9_ok : ∀ k, k < 17 → parseFieldDescriptor (TX9 k).2.2.1 = some (tyX9 k) := by decide +kernel
abbrev cX9_init : ByteArray := prog_1_method_1_code
def yX9_init : MethodName := ⟨RX9, "<init>", "()V"⟩
abbrev cX9_feed : ByteArray := prog_1_method_2_code
def yX9_feed : MethodName := ⟨RX9, "feed", "(J)I"⟩
abbrev cX9_end : ByteArray := prog_1_method_3_code
def yX9_end : MethodName := ⟨RX9, "end", "(I)I"⟩
abbrev cX9_text : ByteArray := prog_1_method_4_code
def yX9_text : MethodName := ⟨RX9, "text", "()I"⟩
abbrev cX9_fault : ByteArray := prog_1_method_5_code
def yX9_fault : MethodName := ⟨RX9, "fault", "()I"⟩
abbrev cX9_wire : ByteArray := prog_1_method_6_code
def yX9_wire : MethodName := ⟨RX9, "wire", "(II)I"⟩
abbrev cX9_event : ByteArray := prog_1_method_7_code
def yX9_event : MethodName := ⟨RX9, "event", "(II)I"⟩
abbrev cX9_place : ByteArray := prog_1_method_8_code
def yX9_place : MethodName := ⟨RX9, "place", "(II)I"⟩
abbrev cX9_states : ByteArray := prog_1_method_9_code
def yX9_states : MethodName := ⟨RX9, "states", "()I"⟩
abbrev cX9_right : ByteArray := prog_1_method_10_code
def yX9_right : MethodName := ⟨RX9, "right", "()I"⟩
abbrev cX9_of : ByteArray := prog_1_method_11_code
def yX9_of : MethodName := ⟨RX9, "of", "(II)I"⟩
abbrev cX9_quarrels : ByteArray := prog_1_method_12_code
def yX9_quarrels : MethodName := ⟨RX9, "quarrels", "(I)I"⟩
abbrev cX9_back : ByteArray := prog_1_method_13_code
def yX9_back : MethodName := ⟨RX9, "back", "(I)I"⟩
abbrev cX9_stuck : ByteArray := prog_1_method_14_code
def yX9_stuck : MethodName := ⟨RX9, "stuck", "(I)I"⟩
abbrev cX9_aim : ByteArray := prog_1_method_15_code
def yX9_aim : MethodName := ⟨RX9, "aim", "(II)I"⟩
abbrev cX9_makes : ByteArray := prog_1_method_16_code
def yX9_makes : MethodName := ⟨RX9, "makes", "(II)I"⟩
abbrev cX9_judge : ByteArray := prog_1_method_17_code
def yX9_judge : MethodName := ⟨RX9, "judge", "(IIIII)I"⟩
abbrev cX9_cost : ByteArray := prog_1_method_18_code
def yX9_cost : MethodName := ⟨RX9, "cost", "()I"⟩
abbrev cX9_would : ByteArray := prog_1_method_19_code
def yX9_would : MethodName := ⟨RX9, "would", "(II)I"⟩
abbrev cX9_cure : ByteArray := prog_1_method_20_code
def yX9_cure : MethodName := ⟨RX9, "cure", "(II)I"⟩
abbrev cX9_cures : ByteArray := prog_1_method_21_code
def yX9_cures : MethodName := ⟨RX9, "cures", "(I)I"⟩
abbrev cX9_delay : ByteArray := prog_1_method_22_code
def yX9_delay : MethodName := ⟨RX9, "delay", "(II)I"⟩
abbrev cX9_beat : ByteArray := prog_1_method_23_code
def yX9_beat : MethodName := ⟨RX9, "beat", "(I)I"⟩
abbrev cX9_time : ByteArray := prog_1_method_24_code
def yX9_time : MethodName := ⟨RX9, "time", "(II)I"⟩
abbrev cX9_come : ByteArray := prog_1_method_25_code
def yX9_come : MethodName := ⟨RX9, "come", "(I)I"⟩
abbrev cX9_undo : ByteArray := prog_1_method_26_code
def yX9_undo : MethodName := ⟨RX9, "undo", "()I"⟩
abbrev cX9_run : ByteArray := prog_1_method_27_code
def yX9_run : MethodName := ⟨RX9, "run", "(I)I"⟩
abbrev cX9_sheet : ByteArray := prog_1_method_28_code
def yX9_sheet : MethodName := ⟨RX9, "sheet", "(III)I"⟩
abbrev cX9_lay : ByteArray := prog_1_method_29_code
def yX9_lay : MethodName := ⟨RX9, "lay", "(III)I"⟩
abbrev cX9_row : ByteArray := prog_1_method_30_code
def yX9_row : MethodName := ⟨RX9, "row", "(IIII)I"⟩
abbrev cX9_count : ByteArray := prog_1_method_31_code
def yX9_count : MethodName := ⟨RX9, "count", "(I)I"⟩
abbrev cX9_isSheet : ByteArray := prog_1_method_32_code
def yX9_isSheet : MethodName := ⟨RX9, "isSheet", "(I)Z"⟩
abbrev cX9_isLane : ByteArray := prog_1_method_33_code
def yX9_isLane : MethodName := ⟨RX9, "isLane", "(I)Z"⟩
abbrev cX9_beginAnew : ByteArray := prog_1_method_34_code
def yX9_beginAnew : MethodName := ⟨RX9, "beginAnew", "()V"⟩
abbrev cX9_explore : ByteArray := prog_1_method_35_code
def yX9_explore : MethodName := ⟨RX9, "explore", "()V"⟩
abbrev cX9_isRight : ByteArray := prog_1_method_36_code
def yX9_isRight : MethodName := ⟨RX9, "isRight", "()Z"⟩
abbrev cX9_findClashes : ByteArray := prog_1_method_37_code
def yX9_findClashes : MethodName := ⟨RX9, "findClashes", "()V"⟩
abbrev cX9_gatherSums : ByteArray := prog_1_method_38_code
def yX9_gatherSums : MethodName := ⟨RX9, "gatherSums", "()V"⟩
abbrev cX9_canBeMade : ByteArray := prog_1_method_39_code
def yX9_canBeMade : MethodName := ⟨RX9, "canBeMade", "(I)Z"⟩
abbrev cX9_findRings : ByteArray := prog_1_method_40_code
def yX9_findRings : MethodName := ⟨RX9, "findRings", "()V"⟩
abbrev cX9_refusedCure : ByteArray := prog_1_method_41_code
def yX9_refusedCure : MethodName := ⟨RX9, "refusedCure", "(II)I"⟩
abbrev cX9_tryCure : ByteArray := prog_1_method_42_code
def yX9_tryCure : MethodName := ⟨RX9, "tryCure", "(II)V"⟩
abbrev cX9_wouldCure : ByteArray := prog_1_method_43_code
def yX9_wouldCure : MethodName := ⟨RX9, "wouldCure", "(II)Z"⟩
abbrev cX9_searchCures : ByteArray := prog_1_method_44_code
def yX9_searchCures : MethodName := ⟨RX9, "searchCures", "(Z)V"⟩
abbrev cX9_lowest : ByteArray := prog_1_method_45_code
def yX9_lowest : MethodName := ⟨RX9, "lowest", "(I)I"⟩
def RX10 : String := "WaitingWiresModel"
def TX10 : u_T := fun k => match k with
  | 0 => ("WaitingWiresModel", "wires", "I", false)
  | 1 => ("WaitingWiresModel", "letterOf", "[I", true)
  | 2 => ("WaitingWiresModel", "kindOf", "[I", true)
  | 3 => ("WaitingWiresModel", "events", "I", false)
  | 4 => ("WaitingWiresModel", "wireOf", "[I", true)
  | 5 => ("WaitingWiresModel", "rises", "[I", true)
  | 6 => ("WaitingWiresModel", "indexOf", "[I", true)
  | 7 => ("WaitingWiresModel", "takes", "[I", true)
  | 8 => ("WaitingWiresModel", "feeds", "[I", true)
  | 9 => ("WaitingWiresModel", "delays", "[I", true)
  | 10 => ("WaitingWiresModel", "places", "I", false)
  | 11 => ("WaitingWiresModel", "first", "I", false)
  | 12 => ("WaitingWiresModel", "tape", "[I", true)
  | 13 => ("WaitingWiresModel", "taped", "I", false)
  | 14 => ("WaitingWiresModel", "fault", "I", false)
  | 15 => ("WaitingWiresModel", "wrong", "I", false)
  | 16 => ("WaitingWiresModel", "wrongAt", "I", false)
  | 17 => ("WaitingWiresModel", "at", "I", false)
  | 18 => ("WaitingWiresModel", "place", "I", false)
  | 19 => ("WaitingWiresModel", "token", "I", false)
  | 20 => ("WaitingWiresModel", "value", "I", false)
  | 21 => ("WaitingWiresModel", "newWires", "I", false)
  | 22 => ("WaitingWiresModel", "newLetter", "[I", true)
  | 23 => ("WaitingWiresModel", "newKind", "[I", true)
  | 24 => ("WaitingWiresModel", "newEvents", "I", false)
  | 25 => ("WaitingWiresModel", "newWire", "[I", true)
  | 26 => ("WaitingWiresModel", "newRises", "[I", true)
  | 27 => ("WaitingWiresModel", "newIndex", "[I", true)
  | 28 => ("WaitingWiresModel", "newTakes", "[I", true)
  | 29 => ("WaitingWiresModel", "newFeeds", "[I", true)
  | 30 => ("WaitingWiresModel", "newPlaces", "I", false)
  | 31 => ("WaitingWiresModel", "newFirst", "I", false)
  | 32 => ("WaitingWiresModel", "stateMany", "I", false)
  | 33 => ("WaitingWiresModel", "statesAre", "I", false)
  | 34 => ("WaitingWiresModel", "marking", "[I", true)
  | 35 => ("WaitingWiresModel", "behind", "[I", true)
  | 36 => ("WaitingWiresModel", "levels", "[I", true)
  | 37 => ("WaitingWiresModel", "isRight", "Z", false)
  | 38 => ("WaitingWiresModel", "isLaid", "[Z", true)
  | 39 => ("WaitingWiresModel", "alike", "I", false)
  | 40 => ("WaitingWiresModel", "quarrelMany", "I", false)
  | 41 => ("WaitingWiresModel", "quarrelOne", "I", false)
  | 42 => ("WaitingWiresModel", "quarrelTwo", "I", false)
  | 43 => ("WaitingWiresModel", "backMany", "I", false)
  | 44 => ("WaitingWiresModel", "backState", "I", false)
  | 45 => ("WaitingWiresModel", "backEvent", "I", false)
  | 46 => ("WaitingWiresModel", "backOther", "I", false)
  | 47 => ("WaitingWiresModel", "ons", "J", false)
  | 48 => ("WaitingWiresModel", "offs", "J", false)
  | 49 => ("WaitingWiresModel", "cubes", "I", false)
  | 50 => ("WaitingWiresModel", "cubeNumber", "[I", true)
  | 51 => ("WaitingWiresModel", "cubeOns", "[J", true)
  | 52 => ("WaitingWiresModel", "cubeLetters", "[I", true)
  | 53 => ("WaitingWiresModel", "covered", "[J", true)
  | 54 => ("WaitingWiresModel", "point", "[I", true)
  | 55 => ("WaitingWiresModel", "tried", "[I", true)
  | 56 => ("WaitingWiresModel", "lettersLeft", "[I", true)
  | 57 => ("WaitingWiresModel", "madeCubes", "I", false)
  | 58 => ("WaitingWiresModel", "madeLetters", "I", false)
  | 59 => ("WaitingWiresModel", "ways", "[J", true)
  | 60 => ("WaitingWiresModel", "fromOf", "[I", true)
  | 61 => ("WaitingWiresModel", "toOf", "[I", true)
  | 62 => ("WaitingWiresModel", "ends", "[I", true)
  | 63 => ("WaitingWiresModel", "lastEnds", "[I", true)
  | 64 => ("WaitingWiresModel", "came", "I", false)
  | 65 => ("WaitingWiresModel", "runMarks", "[I", true)
  | 66 => ("WaitingWiresModel", "runEvents", "[I", true)
  | 67 => ("WaitingWiresModel", "lanes", "[I", true)
  | 68 => ("WaitingWiresModel", "lengths", "[I", true)
  | _ => ("WaitingWiresModel", "cells", "[I", true)
def tyX10 : Nat → FieldType := fun k => match k with
  | 0 => .int
  | 1 => .array .int
  | 2 => .array .int
  | 3 => .int
  | 4 => .array .int
  | 5 => .array .int
  | 6 => .array .int
  | 7 => .array .int
  | 8 => .array .int
  | 9 => .array .int
  | 10 => .int
  | 11 => .int
  | 12 => .array .int
  | 13 => .int
  | 14 => .int
  | 15 => .int
  | 16 => .int
  | 17 => .int
  | 18 => .int
  | 19 => .int
  | 20 => .int
  | 21 => .int
  | 22 => .array .int
  | 23 => .array .int
  | 24 => .int
  | 25 => .array .int
  | 26 => .array .int
  | 27 => .array .int
  | 28 => .array .int
  | 29 => .array .int
  | 30 => .int
  | 31 => .int
  | 32 => .int
  | 33 => .int
  | 34 => .array .int
  | 35 => .array .int
  | 36 => .array .int
  | 37 => .boolean
  | 38 => .array .boolean
  | 39 => .int
  | 40 => .int
  | 41 => .int
  | 42 => .int
  | 43 => .int
  | 44 => .int
  | 45 => .int
  | 46 => .int
  | 47 => .long
  | 48 => .long
  | 49 => .int
  | 50 => .array .int
  | 51 => .array .long
  | 52 => .array .int
  | 53 => .array .long
  | 54 => .array .int
  | 55 => .array .int
  | 56 => .array .int
  | 57 => .int
  | 58 => .int
  | 59 => .array .long
  | 60 => .array .int
  | 61 => .array .int
  | 62 => .array .int
  | 63 => .array .int
  | 64 => .int
  | 65 => .array .int
  | 66 => .array .int
  | 67 => .array .int
  | 68 => .array .int
  | _ => .array .int
abbrev wsX100 : List Cond := u_ws RX10 TX10 70
theorem nmX10 : ∀ a, a < 70 → ∀ b, b < 70 → a ≠ b → (TX10 a).2.1 ≠ (TX10 b).2.1 := by decide +kernel
theorem tyX10_ok : ∀ k, k < 70 → parseFieldDescriptor (TX10 k).2.2.1 = some (tyX10 k) := by decide +kernel
abbrev cX10_init : ByteArray := prog_12_method_1_code
def yX10_init : MethodName := ⟨RX10, "<init>", "()V"⟩
abbrev cX10_in : ByteArray := prog_12_method_3_code
def yX10_in : MethodName := ⟨RX10, "in", "(JJJ)Z"⟩
abbrev cX10_feed : ByteArray := prog_12_method_4_code
def yX10_feed : MethodName := ⟨RX10, "feed", "(J)I"⟩
abbrev cX10_end : ByteArray := prog_12_method_5_code
def yX10_end : MethodName := ⟨RX10, "end", "(I)I"⟩
abbrev cX10_byteAt : ByteArray := prog_12_method_6_code
def yX10_byteAt : MethodName := ⟨RX10, "byteAt", "(I)I"⟩
abbrev cX10_failsAt : ByteArray := prog_12_method_7_code
def yX10_failsAt : MethodName := ⟨RX10, "failsAt", "(II)V"⟩
abbrev cX10_fails : ByteArray := prog_12_method_8_code
def yX10_fails : MethodName := ⟨RX10, "fails", "(I)V"⟩
abbrev cX10_next : ByteArray := prog_12_method_9_code
def yX10_next : MethodName := ⟨RX10, "next", "()V"⟩
abbrev cX10_isSign : ByteArray := prog_12_method_10_code
def yX10_isSign : MethodName := ⟨RX10, "isSign", "(I)Z"⟩
abbrev cX10_isLetter : ByteArray := prog_12_method_11_code
def yX10_isLetter : MethodName := ⟨RX10, "isLetter", "()Z"⟩
abbrev cX10_wireAt : ByteArray := prog_12_method_12_code
def yX10_wireAt : MethodName := ⟨RX10, "wireAt", "(I)I"⟩
abbrev cX10_readWire : ByteArray := prog_12_method_13_code
def yX10_readWire : MethodName := ⟨RX10, "readWire", "(I)V"⟩
abbrev cX10_readEvent : ByteArray := prog_12_method_14_code
def yX10_readEvent : MethodName := ⟨RX10, "readEvent", "(Z)V"⟩
abbrev cX10_readPlace : ByteArray := prog_12_method_15_code
def yX10_readPlace : MethodName := ⟨RX10, "readPlace", "()V"⟩
abbrev cX10_readLine : ByteArray := prog_12_method_16_code
def yX10_readLine : MethodName := ⟨RX10, "readLine", "()V"⟩
abbrev cX10_text : ByteArray := prog_12_method_17_code
def yX10_text : MethodName := ⟨RX10, "text", "()I"⟩
abbrev cX10_fault : ByteArray := prog_12_method_18_code
def yX10_fault : MethodName := ⟨RX10, "fault", "()I"⟩
abbrev cX10_isWire : ByteArray := prog_12_method_19_code
def yX10_isWire : MethodName := ⟨RX10, "isWire", "(I)Z"⟩
abbrev cX10_isEvent : ByteArray := prog_12_method_20_code
def yX10_isEvent : MethodName := ⟨RX10, "isEvent", "(I)Z"⟩
abbrev cX10_wire : ByteArray := prog_12_method_21_code
def yX10_wire : MethodName := ⟨RX10, "wire", "(II)I"⟩
abbrev cX10_event : ByteArray := prog_12_method_22_code
def yX10_event : MethodName := ⟨RX10, "event", "(II)I"⟩
abbrev cX10_feeding : ByteArray := prog_12_method_23_code
def yX10_feeding : MethodName := ⟨RX10, "feeding", "(I)I"⟩
abbrev cX10_taking : ByteArray := prog_12_method_24_code
def yX10_taking : MethodName := ⟨RX10, "taking", "(I)I"⟩
abbrev cX10_place : ByteArray := prog_12_method_25_code
def yX10_place : MethodName := ⟨RX10, "place", "(II)I"⟩
abbrev cX10_isReady : ByteArray := prog_12_method_26_code
def yX10_isReady : MethodName := ⟨RX10, "isReady", "(II)Z"⟩
abbrev cX10_isUnsafe : ByteArray := prog_12_method_27_code
def yX10_isUnsafe : MethodName := ⟨RX10, "isUnsafe", "(II)Z"⟩
abbrev cX10_after : ByteArray := prog_12_method_28_code
def yX10_after : MethodName := ⟨RX10, "after", "(II)I"⟩
abbrev cX10_stateOf : ByteArray := prog_12_method_29_code
def yX10_stateOf : MethodName := ⟨RX10, "stateOf", "(I)I"⟩
abbrev cX10_layStates : ByteArray := prog_12_method_30_code
def yX10_layStates : MethodName := ⟨RX10, "layStates", "()I"⟩
abbrev cX10_layLevels : ByteArray := prog_12_method_31_code
def yX10_layLevels : MethodName := ⟨RX10, "layLevels", "(II)Z"⟩
abbrev cX10_layRight : ByteArray := prog_12_method_32_code
def yX10_layRight : MethodName := ⟨RX10, "layRight", "()Z"⟩
abbrev cX10_states : ByteArray := prog_12_method_33_code
def yX10_states : MethodName := ⟨RX10, "states", "()I"⟩
abbrev cX10_right : ByteArray := prog_12_method_34_code
def yX10_right : MethodName := ⟨RX10, "right", "()I"⟩
abbrev cX10_readyIn : ByteArray := prog_12_method_35_code
def yX10_readyIn : MethodName := ⟨RX10, "readyIn", "(I)I"⟩
abbrev cX10_excited : ByteArray := prog_12_method_36_code
def yX10_excited : MethodName := ⟨RX10, "excited", "(I)I"⟩
abbrev cX10_aims : ByteArray := prog_12_method_37_code
def yX10_aims : MethodName := ⟨RX10, "aims", "(I)I"⟩
abbrev cX10_of : ByteArray := prog_12_method_38_code
def yX10_of : MethodName := ⟨RX10, "of", "(II)I"⟩
abbrev cX10_ownWires : ByteArray := prog_12_method_39_code
def yX10_ownWires : MethodName := ⟨RX10, "ownWires", "()I"⟩
abbrev cX10_layQuarrels : ByteArray := prog_12_method_40_code
def yX10_layQuarrels : MethodName := ⟨RX10, "layQuarrels", "()V"⟩
abbrev cX10_quarrels : ByteArray := prog_12_method_41_code
def yX10_quarrels : MethodName := ⟨RX10, "quarrels", "(I)I"⟩
abbrev cX10_layBacks : ByteArray := prog_12_method_42_code
def yX10_layBacks : MethodName := ⟨RX10, "layBacks", "()V"⟩
abbrev cX10_back : ByteArray := prog_12_method_43_code
def yX10_back : MethodName := ⟨RX10, "back", "(I)I"⟩
abbrev cX10_stuck : ByteArray := prog_12_method_44_code
def yX10_stuck : MethodName := ⟨RX10, "stuck", "(I)I"⟩
abbrev cX10_layAims : ByteArray := prog_12_method_45_code
def yX10_layAims : MethodName := ⟨RX10, "layAims", "(I)V"⟩
abbrev cX10_aim : ByteArray := prog_12_method_46_code
def yX10_aim : MethodName := ⟨RX10, "aim", "(II)I"⟩
abbrev cX10_cubeAll : ByteArray := prog_12_method_47_code
def yX10_cubeAll : MethodName := ⟨RX10, "cubeAll", "()I"⟩
abbrev cX10_levelsOf : ByteArray := prog_12_method_48_code
def yX10_levelsOf : MethodName := ⟨RX10, "levelsOf", "(I)J"⟩
abbrev cX10_lettersOf : ByteArray := prog_12_method_49_code
def yX10_lettersOf : MethodName := ⟨RX10, "lettersOf", "(I)I"⟩
abbrev cX10_layCubes : ByteArray := prog_12_method_50_code
def yX10_layCubes : MethodName := ⟨RX10, "layCubes", "()V"⟩
abbrev cX10_isHopeless : ByteArray := prog_12_method_51_code
def yX10_isHopeless : MethodName := ⟨RX10, "isHopeless", "(JII)Z"⟩
abbrev cX10_hardest : ByteArray := prog_12_method_52_code
def yX10_hardest : MethodName := ⟨RX10, "hardest", "(J)I"⟩
abbrev cX10_canMake : ByteArray := prog_12_method_53_code
def yX10_canMake : MethodName := ⟨RX10, "canMake", "(JII)Z"⟩
abbrev cX10_layMakes : ByteArray := prog_12_method_54_code
def yX10_layMakes : MethodName := ⟨RX10, "layMakes", "()V"⟩
abbrev cX10_cubeAt : ByteArray := prog_12_method_55_code
def yX10_cubeAt : MethodName := ⟨RX10, "cubeAt", "(I)I"⟩
abbrev cX10_isOwn : ByteArray := prog_12_method_56_code
def yX10_isOwn : MethodName := ⟨RX10, "isOwn", "(I)Z"⟩
abbrev cX10_makes : ByteArray := prog_12_method_57_code
def yX10_makes : MethodName := ⟨RX10, "makes", "(II)I"⟩
abbrev cX10_judge : ByteArray := prog_12_method_58_code
def yX10_judge : MethodName := ⟨RX10, "judge", "(IIIII)I"⟩
abbrev cX10_cost : ByteArray := prog_12_method_59_code
def yX10_cost : MethodName := ⟨RX10, "cost", "()I"⟩
abbrev cX10_isFull : ByteArray := prog_12_method_60_code
def yX10_isFull : MethodName := ⟨RX10, "isFull", "()Z"⟩
abbrev cX10_addEvent : ByteArray := prog_12_method_61_code
def yX10_addEvent : MethodName := ⟨RX10, "addEvent", "(II)V"⟩
abbrev cX10_addCure : ByteArray := prog_12_method_62_code
def yX10_addCure : MethodName := ⟨RX10, "addCure", "(II)V"⟩
abbrev cX10_dropCure : ByteArray := prog_12_method_63_code
def yX10_dropCure : MethodName := ⟨RX10, "dropCure", "(II)V"⟩
abbrev cX10_tryCure : ByteArray := prog_12_method_64_code
def yX10_tryCure : MethodName := ⟨RX10, "tryCure", "(II)I"⟩
abbrev cX10_would : ByteArray := prog_12_method_65_code
def yX10_would : MethodName := ⟨RX10, "would", "(II)I"⟩
abbrev cX10_cure : ByteArray := prog_12_method_66_code
def yX10_cure : MethodName := ⟨RX10, "cure", "(II)I"⟩
abbrev cX10_cures : ByteArray := prog_12_method_67_code
def yX10_cures : MethodName := ⟨RX10, "cures", "(I)I"⟩
abbrev cX10_delay : ByteArray := prog_12_method_68_code
def yX10_delay : MethodName := ⟨RX10, "delay", "(II)I"⟩
abbrev cX10_sizeOf : ByteArray := prog_12_method_69_code
def yX10_sizeOf : MethodName := ⟨RX10, "sizeOf", "(I)I"⟩
abbrev cX10_leastOf : ByteArray := prog_12_method_70_code
def yX10_leastOf : MethodName := ⟨RX10, "leastOf", "(I)I"⟩
abbrev cX10_layWays : ByteArray := prog_12_method_71_code
def yX10_layWays : MethodName := ⟨RX10, "layWays", "(JJZ)V"⟩
abbrev cX10_isGraph : ByteArray := prog_12_method_72_code
def yX10_isGraph : MethodName := ⟨RX10, "isGraph", "()Z"⟩
abbrev cX10_hasRing : ByteArray := prog_12_method_73_code
def yX10_hasRing : MethodName := ⟨RX10, "hasRing", "(II)Z"⟩
abbrev cX10_divisor : ByteArray := prog_12_method_74_code
def yX10_divisor : MethodName := ⟨RX10, "divisor", "(II)I"⟩
abbrev cX10_beat : ByteArray := prog_12_method_75_code
def yX10_beat : MethodName := ⟨RX10, "beat", "(I)I"⟩
abbrev cX10_layEnds : ByteArray := prog_12_method_76_code
def yX10_layEnds : MethodName := ⟨RX10, "layEnds", "(I)V"⟩
abbrev cX10_time : ByteArray := prog_12_method_77_code
def yX10_time : MethodName := ⟨RX10, "time", "(II)I"⟩
abbrev cX10_begin : ByteArray := prog_12_method_78_code
def yX10_begin : MethodName := ⟨RX10, "begin", "()V"⟩
abbrev cX10_come : ByteArray := prog_12_method_79_code
def yX10_come : MethodName := ⟨RX10, "come", "(I)I"⟩
abbrev cX10_undo : ByteArray := prog_12_method_80_code
def yX10_undo : MethodName := ⟨RX10, "undo", "()I"⟩
abbrev cX10_run : ByteArray := prog_12_method_81_code
def yX10_run : MethodName := ⟨RX10, "run", "(I)I"⟩
abbrev cX10_sheet : ByteArray := prog_12_method_82_code
def yX10_sheet : MethodName := ⟨RX10, "sheet", "(III)I"⟩
abbrev cX10_lay : ByteArray := prog_12_method_83_code
def yX10_lay : MethodName := ⟨RX10, "lay", "(III)I"⟩
abbrev cX10_row : ByteArray := prog_12_method_84_code
def yX10_row : MethodName := ⟨RX10, "row", "(IIII)I"⟩
abbrev cX10_count : ByteArray := prog_12_method_85_code
def yX10_count : MethodName := ⟨RX10, "count", "(I)I"⟩
def RJ6 : String := "java/lang/Integer"
abbrev cJ6_bitCount_0f7a4 : ByteArray := prog_13_method_49_code
def yJ6_bitCount_0f7a4 : MethodName := ⟨RJ6, "bitCount", "(I)I"⟩
def RJ9 : String := "java/lang/Math"
abbrev cJ9_max_7cf53 : ByteArray := prog_14_method_65_code
def yJ9_max_7cf53 : MethodName := ⟨RJ9, "max", "(II)I"⟩
abbrev cJ9_min_7cf53 : ByteArray := prog_14_method_69_code
def yJ9_min_7cf53 : MethodName := ⟨RJ9, "min", "(II)I"⟩
def RJ0 : String := "java/lang/String"
abbrev cJ0_length_8abf5 : ByteArray := prog_15_method_54_code
def yJ0_length_8abf5 : MethodName := ⟨RJ0, "length", "()I"⟩
abbrev cJ0_charAt_5068e : ByteArray := prog_15_method_56_code
def yJ0_charAt_5068e : MethodName := ⟨RJ0, "charAt", "(I)C"⟩
abbrev cJ0_coder_7d493 : ByteArray := prog_15_method_152_code
def yJ0_coder_7d493 : MethodName := ⟨RJ0, "coder", "()B"⟩
abbrev cJ0_isLatin1_aae02 : ByteArray := prog_15_method_154_code
def yJ0_isLatin1_aae02 : MethodName := ⟨RJ0, "isLatin1", "()Z"⟩
abbrev cJ0_checkIndex_df160 : ByteArray := prog_15_method_155_code
def yJ0_checkIndex_df160 : MethodName := ⟨RJ0, "checkIndex", "(II)V"⟩
def RJ1 : String := "java/lang/StringLatin1"
abbrev cJ1_charAt_3b067 : ByteArray := prog_16_method_2_code
def yJ1_charAt_3b067 : MethodName := ⟨RJ1, "charAt", "([BI)C"⟩
def RJ2 : String := "java/lang/StringUTF16"
abbrev cJ2_getChar_3b067 : ByteArray := prog_17_method_5_code
def yJ2_getChar_3b067 : MethodName := ⟨RJ2, "getChar", "([BI)C"⟩
abbrev cJ2_length_9d52b : ByteArray := prog_17_method_6_code
def yJ2_length_9d52b : MethodName := ⟨RJ2, "length", "([B)I"⟩
abbrev cJ2_charAt_3b067 : ByteArray := prog_17_method_83_code
def yJ2_charAt_3b067 : MethodName := ⟨RJ2, "charAt", "([BI)C"⟩
abbrev cJ2_checkIndex_2214a : ByteArray := prog_17_method_91_code
def yJ2_checkIndex_2214a : MethodName := ⟨RJ2, "checkIndex", "(I[B)V"⟩
def RJ10 : String := "java/lang/System"
def RJ7 : String := "java/util/Arrays"
abbrev cJ7_fill_53178 : ByteArray := prog_19_method_103_code
def yJ7_fill_53178 : MethodName := ⟨RJ7, "fill", "([II)V"⟩
def RJ3 : String := "jdk/internal/util/Preconditions"
abbrev cJ3_checkIndex_8e157 : ByteArray := prog_20_method_11_code
def yJ3_checkIndex_8e157 : MethodName := ⟨RJ3, "checkIndex", "(IILjava/util/function/BiFunction;)I"⟩
end
section
/-- the classes by number: name, fields, how many -/
def ab_cl : List vw_C := [(RX0, TX0, 10), (RX1, TX1, 10), (RX2, TX2, 3), (RX3, TX3, 14), (RX4, TX4, 9), (RX5, TX5, 11), (RX6, TX6, 3), (RX7, TX7, 12), (RX8, TX8, 9), (RX9, TX9, 17), (RX10, TX10, 70)]
def ab_N (ci : Nat) : Nat := match ci with
  | 0 => 10
  | 1 => 10
  | 2 => 3
  | 3 => 14
  | 4 => 9
  | 5 => 11
  | 6 => 3
  | 7 => 12
  | 8 => 9
  | 9 => 17
  | _ => 70
def ab_ty (ci : Nat) : Nat → FieldType := match ci with
  | 0 => tyX0
  | 1 => tyX1
  | 2 => tyX2
  | 3 => tyX3
  | 4 => tyX4
  | 5 => tyX5
  | 6 => tyX6
  | 7 => tyX7
  | 8 => tyX8
  | 9 => tyX9
  | _ => tyX10
def ab_tb : List Cond := lw_tbl.filter goodWord
theorem ab_tb_of {w : Cond} {i : Nat} (h : lw_tbl[i]? = some w) (hg : goodWord w = true) : w ∈ ab_tb := List.mem_filter.mpr ⟨List.mem_of_getElem? h, hg⟩
theorem ab_tb_good : GoodIn ab_tb ab_tb := fun w h => ⟨h, good_of_word (List.mem_filter.mp h).2⟩
theorem ab_pl {ws : List Cond} (ps : List Nat) (hp : ws = ps.filterMap (fun i => lw_tbl[i]?)) (hg : ws.all goodWord = true) : ∀ w ∈ ws, w ∈ ab_tb := fun w h => by
  have h2 := (List.all_eq_true.mp hg) w h
  rw [hp] at h
  obtain ⟨i, -, hi⟩ := List.mem_filterMap.mp h
  exact ab_tb_of hi h2
theorem ab_lay_0 : ∀ w ∈ u_ws RX0 TX0 10, w ∈ ab_tb := ab_pl [247, 249, 251, 253, 255, 257, 259, 261, 263, 265] (by decide +kernel) (by decide +kernel)
theorem ab_ini_0 : Cond.initialized RX0 ∈ ab_tb ∧ Cond.instantiable RX0 10 ∈ ab_tb := ⟨ab_tb_of (i := 103) (by decide +kernel) rfl, ab_tb_of (i := 224) (by decide +kernel) rfl⟩
theorem ab_lay_1 : ∀ w ∈ u_ws RX1 TX1 10, w ∈ ab_tb := ab_pl [291, 293, 295, 297, 299, 301, 303, 305, 307, 309] (by decide +kernel) (by decide +kernel)
theorem ab_ini_1 : Cond.initialized RX1 ∈ ab_tb ∧ Cond.instantiable RX1 10 ∈ ab_tb := ⟨ab_tb_of (i := 105) (by decide +kernel) rfl, ab_tb_of (i := 275) (by decide +kernel) rfl⟩
theorem ab_lay_2 : ∀ w ∈ u_ws RX2 TX2 3, w ∈ ab_tb := ab_pl [399, 401, 403] (by decide +kernel) (by decide +kernel)
theorem ab_ini_2 : Cond.initialized RX2 ∈ ab_tb ∧ Cond.instantiable RX2 3 ∈ ab_tb := ⟨ab_tb_of (i := 107) (by decide +kernel) rfl, ab_tb_of (i := 390) (by decide +kernel) rfl⟩
theorem ab_lay_3 : ∀ w ∈ u_ws RX3 TX3 14, w ∈ ab_tb := ab_pl [459, 461, 463, 465, 467, 469, 471, 473, 475, 477, 479, 481, 483, 485] (by decide +kernel) (by decide +kernel)
theorem ab_ini_3 : Cond.initialized RX3 ∈ ab_tb ∧ Cond.instantiable RX3 14 ∈ ab_tb := ⟨ab_tb_of (i := 108) (by decide +kernel) rfl, ab_tb_of (i := 409) (by decide +kernel) rfl⟩
theorem ab_lay_4 : ∀ w ∈ u_ws RX4 TX4 9, w ∈ ab_tb := ab_pl [145, 147, 149, 151, 153, 155, 157, 159, 161] (by decide +kernel) (by decide +kernel)
theorem ab_ini_4 : Cond.initialized RX4 ∈ ab_tb ∧ Cond.instantiable RX4 9 ∈ ab_tb := ⟨ab_tb_of (i := 101) (by decide +kernel) rfl, ab_tb_of (i := 128) (by decide +kernel) rfl⟩
theorem ab_lay_5 : ∀ w ∈ u_ws RX5 TX5 11, w ∈ ab_tb := ab_pl [366, 368, 370, 372, 374, 376, 378, 380, 382, 384, 386] (by decide +kernel) (by decide +kernel)
theorem ab_ini_5 : Cond.initialized RX5 ∈ ab_tb ∧ Cond.instantiable RX5 11 ∈ ab_tb := ⟨ab_tb_of (i := 106) (by decide +kernel) rfl, ab_tb_of (i := 346) (by decide +kernel) rfl⟩
theorem ab_lay_6 : ∀ w ∈ u_ws RX6 TX6 3, w ∈ ab_tb := ab_pl [498, 500, 502] (by decide +kernel) (by decide +kernel)
theorem ab_ini_6 : Cond.initialized RX6 ∈ ab_tb ∧ Cond.instantiable RX6 3 ∈ ab_tb := ⟨ab_tb_of (i := 109) (by decide +kernel) rfl, ab_tb_of (i := 488) (by decide +kernel) rfl⟩
theorem ab_lay_7 : ∀ w ∈ u_ws RX7 TX7 12, w ∈ ab_tb := ab_pl [197, 199, 201, 203, 205, 207, 209, 211, 213, 215, 217, 219] (by decide +kernel) (by decide +kernel)
theorem ab_ini_7 : Cond.initialized RX7 ∈ ab_tb ∧ Cond.instantiable RX7 12 ∈ ab_tb := ⟨ab_tb_of (i := 102) (by decide +kernel) rfl, ab_tb_of (i := 166) (by decide +kernel) rfl⟩
theorem ab_lay_8 : ∀ w ∈ u_ws RX8 TX8 9, w ∈ ab_tb := ab_pl [326, 328, 330, 332, 334, 336, 338, 340, 342] (by decide +kernel) (by decide +kernel)
theorem ab_ini_8 : Cond.initialized RX8 ∈ ab_tb ∧ Cond.instantiable RX8 9 ∈ ab_tb := ⟨ab_tb_of (i := 104) (by decide +kernel) rfl, ab_tb_of (i := 269) (by decide +kernel) rfl⟩
theorem ab_lay_9 : ∀ w ∈ u_ws RX9 TX9 17, w ∈ ab_tb := ab_pl [522, 524, 526, 528, 530, 532, 534, 536, 538, 540, 542, 544, 546, 548, 550, 552, 554] (by decide +kernel) (by decide +kernel)
theorem ab_ini_9 : Cond.initialized RX9 ∈ ab_tb ∧ Cond.instantiable RX9 17 ∈ ab_tb := ⟨ab_tb_of (i := 100) (by decide +kernel) rfl, ab_tb_of (i := 120) (by decide +kernel) rfl⟩
theorem ab_lay_10 : ∀ w ∈ u_ws RX10 TX10 70, w ∈ ab_tb := ab_pl [1257, 1259, 1261, 1263, 1265, 1267, 1269, 1271, 1273, 1275, 1277, 1279, 1281, 1283, 1285, 1287, 1289, 1291, 1293, 1295, 1297, 1299, 1301, 1303, 1305, 1307, 1309, 1311, 1313, 1315, 1317, 1319, 1321, 1323, 1325, 1327, 1329, 1331, 1333, 1335, 1337, 1339, 1341, 1343, 1345, 1347, 1349, 1351, 1353, 1355, 1357, 1359, 1361, 1363, 1365, 1367, 1369, 1371, 1373, 1375, 1377, 1379, 1381, 1383, 1385, 1387, 1389, 1391, 1393, 1395] (by decide +kernel) (by decide +kernel)
theorem ab_ini_10 : Cond.initialized RX10 ∈ ab_tb ∧ Cond.instantiable RX10 70 ∈ ab_tb := ⟨ab_tb_of (i := 110) (by decide +kernel) rfl, ab_tb_of (i := 1182) (by decide +kernel) rfl⟩
theorem ab_cl_ok {ci : Nat} {C : String} {T : u_T} {N : Nat} (h : ab_cl[ci]? = some (C, T, N)) : (∀ w ∈ u_ws C T N, w ∈ ab_tb) ∧ (∀ k, k < N → parseFieldDescriptor (T k).2.2.1 = some (ab_ty ci k)) ∧ (∀ a, a < N → ∀ b, b < N → a ≠ b → (T a).2.1 ≠ (T b).2.1) ∧ (Cond.initialized C ∈ ab_tb ∧ Cond.instantiable C N ∈ ab_tb) ∧ N = ab_N ci := by
  match ci, h with
  | 0, h => cases h; exact ⟨ab_lay_0, tyX0_ok, nmX0, ab_ini_0, rfl⟩
  | 1, h => cases h; exact ⟨ab_lay_1, tyX1_ok, nmX1, ab_ini_1, rfl⟩
  | 2, h => cases h; exact ⟨ab_lay_2, tyX2_ok, nmX2, ab_ini_2, rfl⟩
  | 3, h => cases h; exact ⟨ab_lay_3, tyX3_ok, nmX3, ab_ini_3, rfl⟩
  | 4, h => cases h; exact ⟨ab_lay_4, tyX4_ok, nmX4, ab_ini_4, rfl⟩
  | 5, h => cases h; exact ⟨ab_lay_5, tyX5_ok, nmX5, ab_ini_5, rfl⟩
  | 6, h => cases h; exact ⟨ab_lay_6, tyX6_ok, nmX6, ab_ini_6, rfl⟩
  | 7, h => cases h; exact ⟨ab_lay_7, tyX7_ok, nmX7, ab_ini_7, rfl⟩
  | 8, h => cases h; exact ⟨ab_lay_8, tyX8_ok, nmX8, ab_ini_8, rfl⟩
  | 9, h => cases h; exact ⟨ab_lay_9, tyX9_ok, nmX9, ab_ini_9, rfl⟩
  | 10, h => cases h; exact ⟨ab_lay_10, tyX10_ok, nmX10, ab_ini_10, rfl⟩
  | k + 11, h => simp [ab_cl] at h
end
section
/-! ===== THE ABSTRACT MACHINE: cells are numbers (0 the script, 1 .. what was made since), a heap is (how many, how many slots, what each is) ===== -/
abbrev ab_I : Type := Instr × Nat × Nat × Nat × Nat × Int × Nat
abbrev ab_P : Type := List (List (Nat × ab_I))
abbrev ab_M : Type := MethodName × ByteArray × Nat × Option FieldType × (Nat × Nat × Nat × Nat × Nat × Nat) × ab_P
abbrev ab_C : Type := (Nat → Int32) ⊕ ((Nat → Int64) ⊕ (Nat → Option Nat))
abbrev ab_E : Type := (Nat × Nat × ab_C) ⊕ (Nat × List Value)
abbrev ab_H : Type := Nat × Nat × (Nat → ab_E)
abbrev ab_L : Type := List (Nat × Value)
abbrev ab_S : Type := Nat × ab_L × List Value × ab_H
/-- a row of a program by its place -/
def ab_fd : List (Nat × ab_I) → Nat → Option ab_I
  | [], _ => none
  | q :: r, pc => if q.1 = pc then some q.2 else ab_fd r pc
def ab_at (P : ab_P) (pc : Nat) : Option ab_I := match P[pc / 16]? with
  | some l => ab_fd l pc
  | none => none
/-- a local -/
def ab_lk : ab_L → Nat → Option Value
  | [], _ => none
  | q :: r, i => if q.1 = i then some q.2 else ab_lk r i
def ab_s1 (i : Nat) (v : Value) (lv : ab_L) : ab_L := (i, v) :: lv.filter (fun q => !(q.1 == i) && !(q.1 + 1 == i && q.2.category == 2))
def ab_s2 (i : Nat) (v : Value) (lv : ab_L) : ab_L := (i, v) :: lv.filter (fun q => !(q.1 == i) && (!(q.1 == i + 1) && !(q.1 + 1 == i && q.2.category == 2)))
/-- the heap: read, write, make -/
def ab_rd (h : ab_H) (a : Nat) : Option ab_E := if a < h.1 then some (h.2.2 a) else none
def ab_wr (h : ab_H) (a : Nat) (e : ab_E) : ab_H := (h.1, h.2.1, va_up h.2.2 a e)
def ab_nw (h : ab_H) (n : Nat) (e : ab_E) : ab_H := (h.1 + 1, h.2.1 + n, va_up h.2.2 h.1 e)
def ab_in (i : Int32) (n : Nat) : Bool := !(decide (i < 0) || decide (n ≤ i.toNatClampNeg))
/-- the default fields of a class -/
def ab_df (ci : Nat) : List Value := (List.range (ab_N ci)).map (fun k => defaultValue (ab_ty ci k))
def ab_fit (ty : FieldType) (v : Value) : Bool := decide (narrow ty v = v) && fits ty v
def ab_cd (c : ClassFile.Cond) (x y : Int32) : Bool := match c with
  | .eq => decide (x = y)
  | .ne => decide (¬ x = y)
  | .lt => decide (x < y)
  | .ge => decide (y ≤ x)
  | .gt => decide (y < x)
  | .le => decide (x ≤ y)
def ab_jp (pc : Nat) (off : Int) (lv : ab_L) (st : List Value) (h : ab_H) : Option ab_S := if 0 ≤ (pc : Int) + off then some (((pc : Int) + off).toNat, lv, st, h) else none
def ab_k (n pc : Nat) (v : Value) (lv : ab_L) (st : List Value) (h : ab_H) : Option ab_S := some (pc + n, lv, v :: st, h)
def ab_ild (i n pc : Nat) (lv : ab_L) (st : List Value) (h : ab_H) : Option ab_S := match ab_lk lv i with
  | some (.int x) => some (pc + n, lv, .int x :: st, h)
  | _ => none
def ab_lld (i n pc : Nat) (lv : ab_L) (st : List Value) (h : ab_H) : Option ab_S := match ab_lk lv i with
  | some (.long x) => some (pc + n, lv, .long x :: st, h)
  | _ => none
def ab_ald (i n pc : Nat) (lv : ab_L) (st : List Value) (h : ab_H) : Option ab_S := match ab_lk lv i with
  | some (.ref x) => some (pc + n, lv, .ref x :: st, h)
  | some (.retAddr x) => some (pc + n, lv, .retAddr x :: st, h)
  | _ => none
def ab_ist (nL i n pc : Nat) (lv : ab_L) (st : List Value) (h : ab_H) : Option ab_S := match st with
  | .int x :: r => if i < nL then some (pc + n, ab_s1 i (.int x) lv, r, h) else none
  | _ => none
def ab_lst (nL i n pc : Nat) (lv : ab_L) (st : List Value) (h : ab_H) : Option ab_S := match st with
  | .long x :: r => if i + 1 < nL then some (pc + n, ab_s2 i (.long x) lv, r, h) else none
  | _ => none
def ab_ast (nL i n pc : Nat) (lv : ab_L) (st : List Value) (h : ab_H) : Option ab_S := match st with
  | .ref x :: r => if i < nL then some (pc + n, ab_s1 i (.ref x) lv, r, h) else none
  | _ => none
def ab_inc (nL i : Nat) (n : Int) (pc : Nat) (lv : ab_L) (st : List Value) (h : ab_H) : Option ab_S := match ab_lk lv i with
  | some (.int x) => if i < nL then some (pc + 3, ab_s1 i (.int (x + Int32.ofInt n)) lv, st, h) else none
  | _ => none
def ab_b1 (f : Int32 → Int32) (pc : Nat) (lv : ab_L) (st : List Value) (h : ab_H) : Option ab_S := match st with
  | .int x :: r => some (pc + 1, lv, .int (f x) :: r, h)
  | _ => none
def ab_b2 (f : Int32 → Int32 → Int32) (pc : Nat) (lv : ab_L) (st : List Value) (h : ab_H) : Option ab_S := match st with
  | .int y :: .int x :: r => some (pc + 1, lv, .int (f x y) :: r, h)
  | _ => none
def ab_dv (f : Int32 → Int32 → Int32) (pc : Nat) (lv : ab_L) (st : List Value) (h : ab_H) : Option ab_S := match st with
  | .int y :: .int x :: r => if y = 0 then none else some (pc + 1, lv, .int (f x y) :: r, h)
  | _ => none
def ab_l2 (f : Int64 → Int64 → Int64) (pc : Nat) (lv : ab_L) (st : List Value) (h : ab_H) : Option ab_S := match st with
  | .long y :: .long x :: r => some (pc + 1, lv, .long (f x y) :: r, h)
  | _ => none
def ab_lc (pc : Nat) (lv : ab_L) (st : List Value) (h : ab_H) : Option ab_S := match st with
  | .long y :: .long x :: r => some (pc + 1, lv, .int (lg_cmp x y) :: r, h)
  | _ => none
def ab_ls (f : Int64 → Int32 → Int64) (pc : Nat) (lv : ab_L) (st : List Value) (h : ab_H) : Option ab_S := match st with
  | .int y :: .long x :: r => some (pc + 1, lv, .long (f x y) :: r, h)
  | _ => none
def ab_il (pc : Nat) (lv : ab_L) (st : List Value) (h : ab_H) : Option ab_S := match st with
  | .int x :: r => some (pc + 1, lv, .long x.toInt64 :: r, h)
  | _ => none
def ab_li (pc : Nat) (lv : ab_L) (st : List Value) (h : ab_H) : Option ab_S := match st with
  | .long x :: r => some (pc + 1, lv, .int x.toInt32 :: r, h)
  | _ => none
def ab_dup (pc : Nat) (lv : ab_L) (st : List Value) (h : ab_H) : Option ab_S := match st with
  | v :: r => if v.category = 1 then some (pc + 1, lv, v :: v :: r, h) else none
  | _ => none
def ab_pop (pc : Nat) (lv : ab_L) (st : List Value) (h : ab_H) : Option ab_S := match st with
  | v :: r => if v.category = 1 then some (pc + 1, lv, r, h) else none
  | _ => none
def ab_dx1 (pc : Nat) (lv : ab_L) (st : List Value) (h : ab_H) : Option ab_S := match st with
  | v :: w :: r => if v.category = 1 ∧ w.category = 1 then some (pc + 1, lv, v :: w :: v :: r, h) else none
  | _ => none
def ab_d2 (pc : Nat) (lv : ab_L) (st : List Value) (h : ab_H) : Option ab_S := match st with
  | v :: w :: r => if v.category = 1 ∧ w.category = 1 then some (pc + 1, lv, v :: w :: v :: w :: r, h) else none
  | _ => none
def ab_if (c : ClassFile.Cond) (off : Int) (pc : Nat) (lv : ab_L) (st : List Value) (h : ab_H) : Option ab_S := match st with
  | .int x :: r => if ab_cd c x 0 = true then ab_jp pc off lv r h else some (pc + 3, lv, r, h)
  | _ => none
def ab_ic (c : ClassFile.Cond) (off : Int) (pc : Nat) (lv : ab_L) (st : List Value) (h : ab_H) : Option ab_S := match st with
  | .int y :: .int x :: r => if ab_cd c x y = true then ab_jp pc off lv r h else some (pc + 3, lv, r, h)
  | _ => none
def ab_tsw (d lo hi : Int) (offs : Array Int) (pc : Nat) (lv : ab_L) (st : List Value) (h : ab_H) : Option ab_S := match st with
  | .int x :: r => if x.toInt < lo ∨ hi < x.toInt then ab_jp pc d lv r h else (match offs[(x.toInt - lo).toNat]? with
    | some off => ab_jp pc off lv r h
    | none => none)
  | _ => none
def ab_lsw (d : Int) (ps : Array (Int × Int)) (pc : Nat) (lv : ab_L) (st : List Value) (h : ab_H) : Option ab_S := match st with
  | .int x :: r => if (ps.toList.zip (ps.toList.drop 1)).all (fun (a, next) => a.1 < next.1) = true then ab_jp pc (Op.lookupswitch.offset ps.toList d x.toInt) lv r h else none
  | _ => none
def ab_get (ci k pc : Nat) (lv : ab_L) (st : List Value) (h : ab_H) : Option ab_S := match st with
  | .ref a :: r => (match ab_rd h a with
    | some (.inr (cj, fs)) => if cj = ci then (match fs[k]? with
      | some v => some (pc + 3, lv, v :: r, h)
      | none => none) else none
    | _ => none)
  | _ => none
def ab_put (ci k pc : Nat) (lv : ab_L) (st : List Value) (h : ab_H) : Option ab_S := match st with
  | v :: .ref a :: r => (match ab_rd h a with
    | some (.inr (cj, fs)) => if cj = ci ∧ k < fs.length ∧ ab_fit (ab_ty ci k) v = true then some (pc + 3, lv, r, ab_wr h a (.inr (cj, fs.set k v))) else none
    | _ => none)
  | _ => none
def ab_ial (pc : Nat) (lv : ab_L) (st : List Value) (h : ab_H) : Option ab_S := match st with
  | .int i :: .ref a :: r => (match ab_rd h a with
    | some (.inl (0, n, .inl f)) => if ab_in i n = true then some (pc + 1, lv, .int (f i.toNatClampNeg) :: r, h) else none
    | _ => none)
  | _ => none
def ab_bal (pc : Nat) (lv : ab_L) (st : List Value) (h : ab_H) : Option ab_S := match st with
  | .int i :: .ref a :: r => (match ab_rd h a with
    | some (.inl (1, n, .inl f)) => if ab_in i n = true then some (pc + 1, lv, .int (f i.toNatClampNeg) :: r, h) else none
    | some (.inl (3, n, .inl f)) => if ab_in i n = true then some (pc + 1, lv, .int (f i.toNatClampNeg) :: r, h) else none
    | _ => none)
  | _ => none
def ab_lal (pc : Nat) (lv : ab_L) (st : List Value) (h : ab_H) : Option ab_S := match st with
  | .int i :: .ref a :: r => (match ab_rd h a with
    | some (.inl (2, n, .inr (.inl f))) => if ab_in i n = true then some (pc + 1, lv, .long (f i.toNatClampNeg) :: r, h) else none
    | _ => none)
  | _ => none
def ab_aal (pc : Nat) (lv : ab_L) (st : List Value) (h : ab_H) : Option ab_S := match st with
  | .int i :: .ref a :: r => (match ab_rd h a with
    | some (.inl (4, n, .inr (.inr f))) => if ab_in i n = true then some (pc + 1, lv, va_rf (f i.toNatClampNeg) :: r, h) else none
    | _ => none)
  | _ => none
def ab_len (pc : Nat) (lv : ab_L) (st : List Value) (h : ab_H) : Option ab_S := match st with
  | .ref a :: r => (match ab_rd h a with
    | some (.inl (t, n, _)) => if t < 5 then some (pc + 1, lv, .int (Int32.ofNat n) :: r, h) else none
    | _ => none)
  | _ => none
def ab_ias (pc : Nat) (lv : ab_L) (st : List Value) (h : ab_H) : Option ab_S := match st with
  | .int x :: .int i :: .ref a :: r => (match ab_rd h a with
    | some (.inl (0, n, .inl f)) => if ab_in i n = true ∧ a ≠ 0 then some (pc + 1, lv, r, ab_wr h a (.inl (0, n, .inl (upd f i.toNatClampNeg x)))) else none
    | _ => none)
  | _ => none
def ab_bas (pc : Nat) (lv : ab_L) (st : List Value) (h : ab_H) : Option ab_S := match st with
  | .int x :: .int i :: .ref a :: r => (match ab_rd h a with
    | some (.inl (1, n, .inl f)) => if ab_in i n = true ∧ a ≠ 0 then some (pc + 1, lv, r, ab_wr h a (.inl (1, n, .inl (upd f i.toNatClampNeg (vp_nar .byte x))))) else none
    | some (.inl (3, n, .inl f)) => if ab_in i n = true ∧ a ≠ 0 then some (pc + 1, lv, r, ab_wr h a (.inl (3, n, .inl (upd f i.toNatClampNeg (vp_nar .boolean x))))) else none
    | _ => none)
  | _ => none
def ab_las (pc : Nat) (lv : ab_L) (st : List Value) (h : ab_H) : Option ab_S := match st with
  | .long x :: .int i :: .ref a :: r => (match ab_rd h a with
    | some (.inl (2, n, .inr (.inl f))) => if ab_in i n = true ∧ a ≠ 0 then some (pc + 1, lv, r, ab_wr h a (.inl (2, n, .inr (.inl (vp_updL f i.toNatClampNeg x))))) else none
    | _ => none)
  | _ => none
def ab_aas (pc : Nat) (lv : ab_L) (st : List Value) (h : ab_H) : Option ab_S := match st with
  | .ref v :: .int i :: .ref a :: r => (match ab_rd h a with
    | some (.inl (4, n, .inr (.inr f))) => (match ab_rd h v with
      | some (.inr (6, _)) => if ab_in i n = true ∧ a ≠ 0 then some (pc + 1, lv, r, ab_wr h a (.inl (4, n, .inr (.inr (va_up f i.toNatClampNeg (some v)))))) else none
      | _ => none)
    | _ => none)
  | _ => none
def ab_new (ci pc : Nat) (lv : ab_L) (st : List Value) (h : ab_H) : Option ab_S := some (pc + 3, lv, .ref h.1 :: st, ab_nw h (ab_N ci) (.inr (ci, ab_df ci)))
def ab_tau (t : ArrayType) : Option (Nat × ab_C) := match t with
  | .int => some (0, .inl (fun _ => 0))
  | .byte => some (1, .inl (fun _ => 0))
  | .long => some (2, .inr (.inl (fun _ => 0)))
  | .boolean => some (3, .inl (fun _ => 0))
  | _ => none
def ab_nwa (t : ArrayType) (pc : Nat) (lv : ab_L) (st : List Value) (h : ab_H) : Option ab_S := match st with
  | .int n :: r => (match ab_tau t with
    | some q => if ¬ n < 0 ∧ n.toNatClampNeg ≤ 100000 then some (pc + 2, lv, .ref h.1 :: r, ab_nw h n.toNatClampNeg (.inl (q.1, n.toNatClampNeg, q.2))) else none
    | none => none)
  | _ => none
def ab_ana (pc : Nat) (lv : ab_L) (st : List Value) (h : ab_H) : Option ab_S := match st with
  | .int n :: r => if ¬ n < 0 ∧ n.toNatClampNeg ≤ 100000 then some (pc + 3, lv, .ref h.1 :: r, ab_nw h n.toNatClampNeg (.inl (4, n.toNatClampNeg, .inr (.inr (fun _ => none))))) else none
  | _ => none
/-! what lies outside the heap: a number k says which (.retAddr k): 0 the row HIGH, 1 to 4 the texts in, out, inner, place, 11 to 14 their bytes, 9 a formatter -/
def ab_hi (i : Nat) : Int64 := [(-6148914691236517206 : Int64), -3689348814741910324, -1085102592571150096, -71777214294589696, -281470681808896, -4294967296].getD i 0
def ab_xt (k : Nat) : List Int32 := match k with
  | 0 => [105, 110]
  | 1 => [111, 117, 116]
  | 2 => [105, 110, 110, 101, 114]
  | _ => [112, 108, 97, 99, 101]
def ab_gs (k pc : Nat) (lv : ab_L) (st : List Value) (h : ab_H) : Option ab_S := match k with
  | 0 => some (pc + 3, lv, .retAddr 0 :: st, h)
  | 1 => some (pc + 3, lv, .int 1 :: st, h)
  | 2 => some (pc + 3, lv, .retAddr 9 :: st, h)
  | _ => none
def ab_lds (k pc : Nat) (lv : ab_L) (st : List Value) (h : ab_H) : Option ab_S := if k < 4 then some (pc + 2, lv, .retAddr (k + 1) :: st, h) else none
def ab_gx (f pc : Nat) (lv : ab_L) (st : List Value) (h : ab_H) : Option ab_S := match st with
  | .retAddr k :: r => if 1 ≤ k ∧ k ≤ 4 then (if f = 0 then some (pc + 3, lv, .retAddr (k + 10) :: r, h) else some (pc + 3, lv, .int 0 :: r, h)) else none
  | _ => none
def ab_lal2 (pc : Nat) (lv : ab_L) (st : List Value) (h : ab_H) : Option ab_S := match st with
  | .int i :: .retAddr k :: r => if k = 0 ∧ ab_in i 6 = true then some (pc + 1, lv, .long (ab_hi i.toNatClampNeg) :: r, h) else none
  | _ => ab_lal pc lv st h
def ab_bal2 (pc : Nat) (lv : ab_L) (st : List Value) (h : ab_H) : Option ab_S := match st with
  | .int i :: .retAddr k :: r => if (11 ≤ k ∧ k ≤ 14) ∧ ab_in i (ab_xt (k - 11)).length = true then some (pc + 1, lv, .int ((ab_xt (k - 11)).getD i.toNatClampNeg 0) :: r, h) else none
  | _ => ab_bal pc lv st h
def ab_len2 (pc : Nat) (lv : ab_L) (st : List Value) (h : ab_H) : Option ab_S := match st with
  | .retAddr k :: r => if 11 ≤ k ∧ k ≤ 14 then some (pc + 1, lv, .int (Int32.ofNat (ab_xt (k - 11)).length) :: r, h) else none
  | _ => ab_len pc lv st h
/-- System.arraycopy of ints -/
def ab_cpy (pc : Nat) (lv : ab_L) (st : List Value) (h : ab_H) : Option ab_S := match st with
  | .int n :: .int dp :: .ref a :: .int sp :: .ref a0 :: r => (match ab_rd h a0 with
    | some (.inl (0, n0, .inl f)) => (match ab_rd h a with
      | some (.inl (0, n1, .inl g)) => if (a ≠ 0 ∧ a0 ≠ 0) ∧ (¬ sp < 0 ∧ ¬ dp < 0 ∧ ¬ n < 0) ∧ (sp.toNatClampNeg + n.toNatClampNeg ≤ n0 ∧ dp.toNatClampNeg + n.toNatClampNeg ≤ n1) ∧ (r.map fun v => v.category).sum ≤ 8 then some (pc + 3, lv, r, ab_wr h a (.inl (0, n1, .inl (va_cpy f g sp.toNatClampNeg dp.toNatClampNeg n.toNatClampNeg)))) else none
      | _ => none)
    | _ => none)
  | _ => none
/-- one step that is no call and no return -/
def ab_sp (nL : Nat) (e : ab_I) (pc : Nat) (lv : ab_L) (st : List Value) (h : ab_H) : Option ab_S := match e.1 with
  | .iconst n => ab_k 1 pc (.int (Int32.ofInt n)) lv st h
  | .bipush n => ab_k 2 pc (.int (Int8.ofInt n).toInt32) lv st h
  | .sipush n => ab_k 3 pc (.int (Int16.ofInt n).toInt32) lv st h
  | .lconst n => ab_k 1 pc (.long (Int64.ofNat (n : Nat))) lv st h
  | .ldc _ => if e.2.2.1 = 7 then ab_lds e.2.2.2.1 pc lv st h else ab_k 2 pc (.int (Int32.ofInt e.2.2.2.2.2.1)) lv st h
  | .ldc_w _ => ab_k 3 pc (.int (Int32.ofInt e.2.2.2.2.2.1)) lv st h
  | .ldc2_w _ => ab_k 3 pc (.long (Int64.ofInt e.2.2.2.2.2.1)) lv st h
  | .iload_n k => ab_ild k.val 1 pc lv st h
  | .iload i => ab_ild i 2 pc lv st h
  | .lload_n k => ab_lld k.val 1 pc lv st h
  | .lload i => ab_lld i 2 pc lv st h
  | .aload_n k => ab_ald k.val 1 pc lv st h
  | .aload i => ab_ald i 2 pc lv st h
  | .istore_n k => ab_ist nL k.val 1 pc lv st h
  | .istore i => ab_ist nL i 2 pc lv st h
  | .lstore_n k => ab_lst nL k.val 1 pc lv st h
  | .lstore i => ab_lst nL i 2 pc lv st h
  | .astore_n k => ab_ast nL k.val 1 pc lv st h
  | .astore i => ab_ast nL i 2 pc lv st h
  | .iinc i n => ab_inc nL i n pc lv st h
  | .iadd => ab_b2 (fun x y => x + y) pc lv st h
  | .isub => ab_b2 (fun x y => x - y) pc lv st h
  | .imul => ab_b2 (fun x y => x * y) pc lv st h
  | .iand => ab_b2 (fun x y => x &&& y) pc lv st h
  | .ior => ab_b2 (fun x y => x ||| y) pc lv st h
  | .ixor => ab_b2 (fun x y => x ^^^ y) pc lv st h
  | .ishl => ab_b2 (fun x y => x <<< (y &&& 31)) pc lv st h
  | .ishr => ab_b2 (fun x y => x >>> (y &&& 31)) pc lv st h
  | .iushr => ab_b2 (fun x y => (x.toUInt32 >>> (y.toUInt32 &&& Int32.toUInt32 31)).toInt32) pc lv st h
  | .idiv => ab_dv (fun x y => x / y) pc lv st h
  | .irem => ab_dv (fun x y => x - x / y * y) pc lv st h
  | .ineg => ab_b1 (fun x => -x) pc lv st h
  | .i2b => ab_b1 (fun x => x.toInt8.toInt32) pc lv st h
  | .i2s => ab_b1 (fun x => x.toInt16.toInt32) pc lv st h
  | .i2c => ab_b1 (fun x => (x.toUInt32 % 65536).toInt32) pc lv st h
  | .i2l => ab_il pc lv st h
  | .l2i => ab_li pc lv st h
  | .ladd => ab_l2 (fun x y => x + y) pc lv st h
  | .lsub => ab_l2 (fun x y => x - y) pc lv st h
  | .lmul => ab_l2 (fun x y => x * y) pc lv st h
  | .land => ab_l2 (fun x y => x &&& y) pc lv st h
  | .lor => ab_l2 (fun x y => x ||| y) pc lv st h
  | .lxor => ab_l2 (fun x y => x ^^^ y) pc lv st h
  | .lcmp => ab_lc pc lv st h
  | .lshl => ab_ls (fun x y => x <<< (y.toInt64 &&& 63)) pc lv st h
  | .lshr => ab_ls (fun x y => x >>> (y.toInt64 &&& 63)) pc lv st h
  | .lushr => ab_ls (fun x y => (x.toUInt64 >>> (y.toInt64.toUInt64 &&& Int64.toUInt64 63)).toInt64) pc lv st h
  | .dup => ab_dup pc lv st h
  | .pop => ab_pop pc lv st h
  | .dup_x1 => ab_dx1 pc lv st h
  | .dup2 => ab_d2 pc lv st h
  | .ifCond c off => ab_if c off pc lv st h
  | .if_icmp c off => ab_ic c off pc lv st h
  | .goto off => ab_jp pc off lv st h
  | .tableswitch d lo hi offs => ab_tsw d lo hi offs pc lv st h
  | .lookupswitch d ps => ab_lsw d ps pc lv st h
  | .getfield _ => if e.2.2.1 = 20 then ab_gx e.2.2.2.1 pc lv st h else ab_get e.2.2.1 e.2.2.2.1 pc lv st h
  | .getstatic _ => ab_gs e.2.2.1 pc lv st h
  | .invokestatic _ => if e.2.2.1 = 8 then ab_cpy pc lv st h else none
  | .putfield _ => ab_put e.2.2.1 e.2.2.2.1 pc lv st h
  | .iaload => ab_ial pc lv st h
  | .baload => ab_bal2 pc lv st h
  | .laload => ab_lal2 pc lv st h
  | .aaload => ab_aal pc lv st h
  | .arraylength => ab_len2 pc lv st h
  | .iastore => ab_ias pc lv st h
  | .bastore => ab_bas pc lv st h
  | .lastore => ab_las pc lv st h
  | .aastore => ab_aas pc lv st h
  | .new _ => ab_new e.2.2.1 pc lv st h
  | .newarray t => ab_nwa t pc lv st h
  | .anewarray _ => ab_ana pc lv st h
  | _ => none
/-- the fixed length of an instruction's row -/
def ab_ln (i : Instr) (len : Nat) : Nat := match i with
  | .tableswitch .. => len
  | .lookupswitch .. => len
  | .bipush _ => 2
  | .sipush _ => 3
  | .ldc _ => 2
  | .ldc_w _ => 3
  | .ldc2_w _ => 3
  | .iload _ => 2
  | .lload _ => 2
  | .aload _ => 2
  | .istore _ => 2
  | .lstore _ => 2
  | .astore _ => 2
  | .iinc .. => 3
  | .ifCond .. => 3
  | .if_icmp .. => 3
  | .goto _ => 3
  | .getfield _ => 3
  | .getstatic _ => 3
  | .putfield _ => 3
  | .new _ => 3
  | .newarray _ => 2
  | .anewarray _ => 3
  | .invokevirtual _ => 3
  | .invokestatic _ => 3
  | .invokespecial _ => 3
  | _ => 1
end
section
/-! ===== what the abstract machine's words mean on the machine ===== -/
/-- the script's address, and the addresses of what lies outside -/
abbrev ab_V : Type := Nat × (Nat → Option Nat)
def ab_ad (b : ab_V) (z i : Nat) : Nat := if i = 0 then b.1 else z + (i - 1)
def ab_v (b : ab_V) (z : Nat) (v : Value) : Value := match v with
  | .ref i => .ref (ab_ad b z i)
  | .retAddr k => va_rf (b.2 k)
  | v => v
def ab_q (b : ab_V) (z : Nat) (q : Nat × Value) : Nat × Value := (q.1, ab_v b z q.2)
def ab_e (b : ab_V) (z : Nat) (dA : Nat → ClassId) (x : ab_E) : va_E := match x with
  | .inl (t, n, .inl f) => .inl (dA t, n, .inl f)
  | .inl (t, n, .inr (.inl f)) => .inl (dA t, n, .inr (.inl f))
  | .inl (t, n, .inr (.inr f)) => .inl (dA t, n, .inr (.inr (.inr (.inr (fun j => (f j).map (ab_ad b z))))))
  | .inr (ci, fs) => .inr (ci, fs.map (ab_v b z))
def ab_tys (dA : Nat → ClassId) : List (ClassId × FieldType) := [(dA 0, .int), (dA 1, .byte), (dA 2, .long), (dA 3, .boolean), (dA 4, .object RX6)]
def ab_R (b : ab_V) (z : Nat) (D : va_G) (dA : Nat → ClassId) (L : Nat) (xs : Nat → Int32) (h : ab_H) (H : Heap) : Prop :=
  H.size + 1 = z + h.1 ∧ 0 < h.1 ∧ h.2.2 0 = .inl (0, L, .inl xs) ∧ ∀ i, 0 < i → i < h.1 → va_at D ab_cl (ab_ad b z i, ab_e b z dA (h.2.2 i)) H
def ab_Nw (s : State) : Prop := ∀ (a : String) (i : Nat) (x : MethodName) (h : String), Cond.methodLinkNest a i x h ∈ lw_tbl → va_Nw (.methodLinkNest a i x h) s
abbrev ab_A (z : Nat) : Nat → Prop := fun q => z ≤ q
def ab_si (k : Nat) : Nat × String := match k with
  | 0 => (46, "in")
  | 1 => (56, "out")
  | 2 => (58, "inner")
  | _ => (60, "place")
/-- what lies outside the heap, at a method's entry -/
def ab_O (b : ab_V) (z : Nat) (s : State) : Prop :=
  (∃ a, b.2 0 = some a ∧ va_T .long a 6 (fun j => .long (ab_hi j)) (ab_A z) s s.heap ∧ va_Z RX8 "HIGH" "[J" (.ref a) (ab_A z) s s.heap) ∧ va_Z "java/lang/String" "COMPACT_STRINGS" "Z" (.int 1) (ab_A z) s s.heap ∧ va_Z "jdk/internal/util/Preconditions" "SIOOBE_FORMATTER" "Ljava/util/function/BiFunction;" (va_rf (b.2 9)) (ab_A z) s s.heap ∧
  ∀ k : Nat, k < 4 → ∃ a v, b.2 (k + 1) = some a ∧ b.2 (k + 11) = some v ∧ vk_R RX4 (ab_si k).1 (ab_si k).2 a s ∧ va_O "java/lang/String" a (ab_A z) s s.heap ∧ va_OF "java/lang/String" "coder" "B" (.int 0) a (ab_A z) s s.heap ∧ va_OF "java/lang/String" "value" "[B" (.ref v) a (ab_A z) s s.heap ∧ va_T .byte v (ab_xt k).length (fun j => .int ((ab_xt k).getD j 0)) (ab_A z) s s.heap
def ab_X (s : State) (b : ab_V) (z : Nat) (D : va_G) (dA : Nat → ClassId) (L : Nat) (xs : Nat → Int32) : Prop :=
  va_K D ab_cl (ab_tys dA) s ∧ ab_Nw s ∧ va_AO RX6 s ∧ va_X b.1 L xs s s.heap ∧ b.1 < z ∧ z ≤ s.heap.size ∧ ab_O b z s
def ab_Cx (p : Program) (s : State) (m : MethodId) (args : Array Value) (meth : Method) (c : Code) (M : ab_M) (b : ab_V) (z : Nat) (D : va_G) (dA : Nat → ClassId) (L : Nat) (xs : Nat → Int32) : Prop :=
  p.tables.exec = Jvm.exec ∧ c.code = M.2.1 ∧ c.maxLocals = M.2.2.1 ∧ s.vm.findClass M.1.cls = some m.cls ∧ (∀ w ∈ ab_tb, w.before args s = true) ∧ meth.sig.returnType = M.2.2.2.1 ∧ meth.locks = false ∧ (M.1.name = "<init>" → meth.name = "<init>") ∧ ab_X s b z D dA L xs
theorem ab_v_cat (b : ab_V) (z : Nat) (v : Value) : (ab_v b z v).category = v.category := by
  cases v with
  | retAddr k =>
    show (va_rf (b.2 k)).category = 1
    cases b.2 k <;> rfl
  | _ => rfl
theorem ab_ad_pos {b : ab_V} {z i : Nat} (h : 0 < i) : ab_ad b z i = z + (i - 1) := by unfold ab_ad; rw [if_neg (by omega)]
theorem ab_ad_inj {b : ab_V} {z i j : Nat} (hi : 0 < i) (hj : 0 < j) (h : ab_ad b z i = ab_ad b z j) : i = j := by
  rw [ab_ad_pos hi, ab_ad_pos hj] at h; omega
theorem ab_s1_map (b : ab_V) (z i : Nat) (v : Value) (lv : ab_L) : (i, ab_v b z v) :: (lv.map (ab_q b z)).filter (fun q => !(q.1 == i) && !(q.1 + 1 == i && q.2.category == 2)) = (ab_s1 i v lv).map (ab_q b z) := by
  unfold ab_s1
  rw [List.map_cons, List.filter_map]
  congr 2
  congr 1
  funext q
  simp only [Function.comp, ab_q, ab_v_cat]
theorem ab_s2_map (b : ab_V) (z i : Nat) (v : Value) (lv : ab_L) : (i, ab_v b z v) :: (lv.map (ab_q b z)).filter (fun q => !(q.1 == i) && (!(q.1 == i + 1) && !(q.1 + 1 == i && q.2.category == 2))) = (ab_s2 i v lv).map (ab_q b z) := by
  unfold ab_s2
  rw [List.map_cons, List.filter_map]
  congr 2
  congr 1
  funext q
  simp only [Function.comp, ab_q, ab_v_cat]
theorem ab_lk_mem : ∀ {lv : ab_L} {i : Nat} {v : Value}, ab_lk lv i = some v → (i, v) ∈ lv
  | [], _, _, h => by cases h
  | q :: r, i, v, h => by
    unfold ab_lk at h
    by_cases hq : q.1 = i
    · rw [if_pos hq] at h
      cases h
      subst hq
      exact List.mem_cons_self
    · rw [if_neg hq] at h
      exact List.mem_cons_of_mem _ (ab_lk_mem h)
theorem ab_lk_at {b : ab_V} {z nL : Nat} {ls : Array Slot} {lv : ab_L} {i : Nat} {v : Value} (hl : lv_has ls nL (lv.map (ab_q b z))) (h : ab_lk lv i = some v) : ls[i]? = some (.val (ab_v b z v)) :=
  hl.2.2 (i, ab_v b z v) (List.mem_map.mpr ⟨(i, v), ab_lk_mem h, rfl⟩)
theorem ab_in_of {i : Int32} {n : Nat} (h : ab_in i n = true) : vp_in i n := by
  unfold ab_in at h
  unfold vp_in
  simpa using h
theorem ab_rd_of {h : ab_H} {a : Nat} {e : ab_E} (q : ab_rd h a = some e) : a < h.1 ∧ h.2.2 a = e := by
  unfold ab_rd at q
  by_cases ha : a < h.1
  · rw [if_pos ha] at q; exact ⟨ha, Option.some.inj q⟩
  · rw [if_neg ha] at q; cases q
theorem ab_one {D : va_G} {cl : List vw_C} {q : Nat × va_E} {H : Heap} (h : va_at D cl q H) : va_P D cl [q] H := fun k x hx => by
  have hz : k < 1 := (List.getElem?_eq_some_iff.mp hx).1
  rw [show k = 0 by omega] at hx
  cases hx
  exact h
theorem ab_R.pos {b : ab_V} {z : Nat} {D : va_G} {dA : Nat → ClassId} {L : Nat} {xs : Nat → Int32} {h : ab_H} {H : Heap} (hR : ab_R b z D dA L xs h H) {a : Nat} {x : Nat × List Value} (hx : h.2.2 a = .inr x) : 0 < a := by
  rcases Nat.eq_zero_or_pos a with h0 | h0
  · subst h0; rw [hR.2.2.1] at hx; cases hx
  · exact h0
/-- a cell is written: the others stay -/
theorem ab_R.wr {b : ab_V} {z : Nat} {D : va_G} {dA : Nat → ClassId} {L : Nat} {xs : Nat → Int32} {h : ab_H} {H H1 : Heap} (hR : ab_R b z D dA L xs h H) {a : Nat} (ha : 0 < a) {x : ab_E} (hz : H1.size = H.size) (ho : ∀ q : Nat, q ≠ ab_ad b z a → H1[q]? = H[q]?) (he : va_at D ab_cl (ab_ad b z a, ab_e b z dA x) H1) : ab_R b z D dA L xs (ab_wr h a x) H1 := by
  obtain ⟨h1, h2, h3, h4⟩ := hR
  refine ⟨by rw [hz]; exact h1, h2, ?_, fun i hi hj => ?_⟩
  · show va_up h.2.2 a x 0 = _
    rw [va_up_ne _ _ (by omega)]
    exact h3
  · show va_at D ab_cl (ab_ad b z i, ab_e b z dA (va_up h.2.2 a x i)) H1
    by_cases hia : i = a
    · subst hia
      rw [va_up_self]
      exact he
    · rw [va_up_ne _ _ hia]
      exact (h4 i hi hj).kept (ho _ (fun q => hia (ab_ad_inj hi ha q)))
/-- a cell is made -/
theorem ab_R.nw {b : ab_V} {z : Nat} {D : va_G} {dA : Nat → ClassId} {L : Nat} {xs : Nat → Int32} {h : ab_H} {H H1 : Heap} (hR : ab_R b z D dA L xs h H) {n : Nat} {x : ab_E} (hz : H1.size = H.size + 1) (ho : ∀ q : Nat, q < H.size → H1[q]? = H[q]?) (he : va_at D ab_cl (H.size, ab_e b z dA x) H1) : ab_R b z D dA L xs (ab_nw h n x) H1 := by
  obtain ⟨h1, h2, h3, h4⟩ := hR
  refine ⟨by show H1.size + 1 = z + (h.1 + 1); omega, Nat.succ_pos _, ?_, fun i hi hj => ?_⟩
  · show va_up h.2.2 h.1 x 0 = _
    rw [va_up_ne _ _ (by omega)]
    exact h3
  · show va_at D ab_cl (ab_ad b z i, ab_e b z dA (va_up h.2.2 h.1 x i)) H1
    have hj' : i < h.1 + 1 := hj
    by_cases hia : i = h.1
    · subst hia
      rw [va_up_self, ab_ad_pos hi, show z + (h.1 - 1) = H.size by omega]
      exact he
    · rw [va_up_ne _ _ hia]
      have := h4 i hi (by omega)
      exact this.kept (ho _ this.lt)
theorem ab_fit_of {b : ab_V} {z : Nat} {ty : FieldType} {v : Value} (h : ab_fit ty v = true) : narrow ty (ab_v b z v) = ab_v b z v ∧ fits ty (ab_v b z v) = true := by
  unfold ab_fit at h
  simp only [Bool.and_eq_true, decide_eq_true_eq] at h
  obtain ⟨h1, h2⟩ := h
  cases v with
  | retAddr k => exact absurd h2 (by cases ty <;> simp [fits])
  | ref a =>
    refine ⟨?_, ?_⟩
    · cases ty <;> first | rfl | (simp [fits] at h2)
    · cases ty <;> first | rfl | (simp [fits] at h2)
  | _ => exact ⟨h1, h2⟩
theorem ab_tys_at {dA : Nat → ClassId} : (ab_tys dA)[0]? = some (dA 0, .int) ∧ (ab_tys dA)[1]? = some (dA 1, .byte) ∧ (ab_tys dA)[2]? = some (dA 2, .long) ∧ (ab_tys dA)[3]? = some (dA 3, .boolean) ∧ (ab_tys dA)[4]? = some (dA 4, .object RX6) := ⟨rfl, rfl, rfl, rfl, rfl⟩
theorem ab_tys_lt {dA : Nat → ClassId} {t : Nat} (ht : t < 5) : ∃ ty, (ab_tys dA)[t]? = some (dA t, ty) := by
  rcases (show t = 0 ∨ t = 1 ∨ t = 2 ∨ t = 3 ∨ t = 4 by omega) with rfl | rfl | rfl | rfl | rfl
  · exact ⟨_, rfl⟩
  · exact ⟨_, rfl⟩
  · exact ⟨_, rfl⟩
  · exact ⟨_, rfl⟩
  · exact ⟨_, rfl⟩
theorem ab_S_put {z : Nat} {H0 H H1 : Heap} {locs : List Loc} {a k : Nat} (h : va_S (ab_A z) H0 H locs) (hz : H1.size = H.size) (ho : ∀ q : Nat, q ≠ a → H1[q]? = H[q]?) (ha : z ≤ a) : va_S (ab_A z) H0 H1 (locs ++ [⟨a, k⟩]) := h.put hz ho ha
theorem ab_S_push {z : Nat} {H0 H H1 : Heap} {locs : List Loc} (h : va_S (ab_A z) H0 H locs) (hz : H1.size = H.size + 1) (ho : ∀ q : Nat, q < H.size → H1[q]? = H[q]?) : va_S (ab_A z) H0 H1 locs :=
  ⟨Nat.le_trans h.1 (by omega), fun q h1 h2 => (ho q (Nat.lt_of_lt_of_le h1 h.1)).trans (h.2.1 q h1 h2), h.2.2⟩
section ABS
variable {p : Program} {l : Launch} {e : Env} {R : Room} {s : State} {m : MethodId} {args : Array Value} {below : List Frame} {meth : Method} {c : Code} {H : Heap} {locs : List Loc} {cells slots : Nat} {Q : State → Prop}
variable {M : ab_M} {b : ab_V} {z : Nat} {D : va_G} {dA : Nat → ClassId} {L : Nat} {xs : Nat → Int32} {pc pc' : Nat} {ls : Array Slot} {lv lv' : ab_L} {st st' : List Value} {h h' : ab_H} {c0 s0 : Nat}
/-- what a step's end gives -/
def ab_KK (p : Program) (l : Launch) (e : Env) (R : Room) (s : State) (m : MethodId) (args : Array Value) (below : List Frame) (meth : Method) (c : Code) (Q : State → Prop) (nL : Nat) (b : ab_V) (z : Nat) (D : va_G) (dA : Nat → ClassId) (L : Nat) (xs : Nat → Int32) (c0 s0 pc : Nat) (lv : ab_L) (st : List Value) (h : ab_H) : Prop :=
  ∀ (H : Heap) (locs : List Loc) (ls : Array Slot) (cells slots : Nat), ab_R b z D dA L xs h H → va_S (ab_A z) s.heap H locs → lv_has ls nL (lv.map (ab_q b z)) → h.1 = c0 + cells → h.2.1 = s0 + slots →
    W p l e R s m args below meth c H locs cells slots Q (F0 m pc ls (st.map (ab_v b z)))

theorem ab_o_iconst (C : ab_Cx p s m args meth c M b z D dA L xs) {n : Int} (hd : decode M.2.1 pc = .ok (.iconst n, 1)) (hs : ab_k 1 pc (.int (Int32.ofInt n)) lv st h = some (pc', lv', st', h')) (hR : ab_R b z D dA L xs h H) (hS : va_S (ab_A z) s.heap H locs) (hl : lv_has ls M.2.2.1 (lv.map (ab_q b z))) (hc : h.1 = c0 + cells) (hq : h.2.1 = s0 + slots) (kk : ab_KK p l e R s m args below meth c Q M.2.2.1 b z D dA L xs c0 s0 pc' lv' st' h') : W p l e R s m args below meth c H locs cells slots Q (F0 m pc ls (st.map (ab_v b z))) := by
  cases hs
  exact lv_iconst C.1 C.2.1 hd rfl (kk _ _ _ _ _ hR hS hl hc hq)
theorem ab_o_bipush (C : ab_Cx p s m args meth c M b z D dA L xs) {n : Int} (hd : decode M.2.1 pc = .ok (.bipush n, 2)) (hs : ab_k 2 pc (.int (Int8.ofInt n).toInt32) lv st h = some (pc', lv', st', h')) (hR : ab_R b z D dA L xs h H) (hS : va_S (ab_A z) s.heap H locs) (hl : lv_has ls M.2.2.1 (lv.map (ab_q b z))) (hc : h.1 = c0 + cells) (hq : h.2.1 = s0 + slots) (kk : ab_KK p l e R s m args below meth c Q M.2.2.1 b z D dA L xs c0 s0 pc' lv' st' h') : W p l e R s m args below meth c H locs cells slots Q (F0 m pc ls (st.map (ab_v b z))) := by
  cases hs
  exact lv_bipush C.1 C.2.1 hd rfl (kk _ _ _ _ _ hR hS hl hc hq)
theorem ab_o_sipush (C : ab_Cx p s m args meth c M b z D dA L xs) {n : Int} (hd : decode M.2.1 pc = .ok (.sipush n, 3)) (hs : ab_k 3 pc (.int (Int16.ofInt n).toInt32) lv st h = some (pc', lv', st', h')) (hR : ab_R b z D dA L xs h H) (hS : va_S (ab_A z) s.heap H locs) (hl : lv_has ls M.2.2.1 (lv.map (ab_q b z))) (hc : h.1 = c0 + cells) (hq : h.2.1 = s0 + slots) (kk : ab_KK p l e R s m args below meth c Q M.2.2.1 b z D dA L xs c0 s0 pc' lv' st' h') : W p l e R s m args below meth c H locs cells slots Q (F0 m pc ls (st.map (ab_v b z))) := by
  cases hs
  exact lv_sipush C.1 C.2.1 hd rfl (kk _ _ _ _ _ hR hS hl hc hq)
theorem ab_o_lconst (C : ab_Cx p s m args meth c M b z D dA L xs) {n : Fin 2} (hd : decode M.2.1 pc = .ok (.lconst n, 1)) (hs : ab_k 1 pc (.long (Int64.ofNat (n : Nat))) lv st h = some (pc', lv', st', h')) (hR : ab_R b z D dA L xs h H) (hS : va_S (ab_A z) s.heap H locs) (hl : lv_has ls M.2.2.1 (lv.map (ab_q b z))) (hc : h.1 = c0 + cells) (hq : h.2.1 = s0 + slots) (kk : ab_KK p l e R s m args below meth c Q M.2.2.1 b z D dA L xs c0 s0 pc' lv' st' h') : W p l e R s m args below meth c H locs cells slots Q (F0 m pc ls (st.map (ab_v b z))) := by
  cases hs
  exact lv_lconst C.1 C.2.1 hd rfl (kk _ _ _ _ _ hR hS hl hc hq)
theorem ab_o_ldc (C : ab_Cx p s m args meth c M b z D dA L xs) {i : Nat} {n : Int32} (hd : decode M.2.1 pc = .ok (.ldc i, 2)) (hw : Cond.constant M.1.cls i n ∈ ab_tb) (hs : ab_k 2 pc (.int n) lv st h = some (pc', lv', st', h')) (hR : ab_R b z D dA L xs h H) (hS : va_S (ab_A z) s.heap H locs) (hl : lv_has ls M.2.2.1 (lv.map (ab_q b z))) (hc : h.1 = c0 + cells) (hq : h.2.1 = s0 + slots) (kk : ab_KK p l e R s m args below meth c Q M.2.2.1 b z D dA L xs c0 s0 pc' lv' st' h') : W p l e R s m args below meth c H locs cells slots Q (F0 m pc ls (st.map (ab_v b z))) := by
  cases hs
  exact lv_ldc C.1 C.2.1 C.2.2.2.1 (C.2.2.2.2.1 _ hw) hd (kk _ _ _ _ _ hR hS hl hc hq)
theorem ab_o_ldc_w (C : ab_Cx p s m args meth c M b z D dA L xs) {i : Nat} {n : Int32} (hd : decode M.2.1 pc = .ok (.ldc_w i, 3)) (hw : Cond.constant M.1.cls i n ∈ ab_tb) (hs : ab_k 3 pc (.int n) lv st h = some (pc', lv', st', h')) (hR : ab_R b z D dA L xs h H) (hS : va_S (ab_A z) s.heap H locs) (hl : lv_has ls M.2.2.1 (lv.map (ab_q b z))) (hc : h.1 = c0 + cells) (hq : h.2.1 = s0 + slots) (kk : ab_KK p l e R s m args below meth c Q M.2.2.1 b z D dA L xs c0 s0 pc' lv' st' h') : W p l e R s m args below meth c H locs cells slots Q (F0 m pc ls (st.map (ab_v b z))) := by
  cases hs
  exact lv_ldcw C.1 C.2.1 C.2.2.2.1 (C.2.2.2.2.1 _ hw) hd (kk _ _ _ _ _ hR hS hl hc hq)
theorem ab_o_ldc2_w (C : ab_Cx p s m args meth c M b z D dA L xs) {i : Nat} {n : Int64} (hd : decode M.2.1 pc = .ok (.ldc2_w i, 3)) (hw : Cond.constantLong M.1.cls i n ∈ ab_tb) (hs : ab_k 3 pc (.long n) lv st h = some (pc', lv', st', h')) (hR : ab_R b z D dA L xs h H) (hS : va_S (ab_A z) s.heap H locs) (hl : lv_has ls M.2.2.1 (lv.map (ab_q b z))) (hc : h.1 = c0 + cells) (hq : h.2.1 = s0 + slots) (kk : ab_KK p l e R s m args below meth c Q M.2.2.1 b z D dA L xs c0 s0 pc' lv' st' h') : W p l e R s m args below meth c H locs cells slots Q (F0 m pc ls (st.map (ab_v b z))) := by
  cases hs
  exact lv_ldc2 C.1 C.2.1 C.2.2.2.1 (C.2.2.2.2.1 _ hw) hd (kk _ _ _ _ _ hR hS hl hc hq)
theorem ab_o_iload_n (C : ab_Cx p s m args meth c M b z D dA L xs) {k : Fin 4} (hd : decode M.2.1 pc = .ok (.iload_n k, 1)) (hs : ab_ild k.val 1 pc lv st h = some (pc', lv', st', h')) (hR : ab_R b z D dA L xs h H) (hS : va_S (ab_A z) s.heap H locs) (hl : lv_has ls M.2.2.1 (lv.map (ab_q b z))) (hc : h.1 = c0 + cells) (hq : h.2.1 = s0 + slots) (kk : ab_KK p l e R s m args below meth c Q M.2.2.1 b z D dA L xs c0 s0 pc' lv' st' h') : W p l e R s m args below meth c H locs cells slots Q (F0 m pc ls (st.map (ab_v b z))) := by
  unfold ab_ild at hs
  split at hs
  · rename_i x hx
    cases hs
    exact lv_iload_n C.1 C.2.1 hd rfl (ab_lk_at hl hx) (kk _ _ _ _ _ hR hS hl hc hq)
  · cases hs
theorem ab_o_iload (C : ab_Cx p s m args meth c M b z D dA L xs) {k : Nat} (hd : decode M.2.1 pc = .ok (.iload k, 2)) (hs : ab_ild k 2 pc lv st h = some (pc', lv', st', h')) (hR : ab_R b z D dA L xs h H) (hS : va_S (ab_A z) s.heap H locs) (hl : lv_has ls M.2.2.1 (lv.map (ab_q b z))) (hc : h.1 = c0 + cells) (hq : h.2.1 = s0 + slots) (kk : ab_KK p l e R s m args below meth c Q M.2.2.1 b z D dA L xs c0 s0 pc' lv' st' h') : W p l e R s m args below meth c H locs cells slots Q (F0 m pc ls (st.map (ab_v b z))) := by
  unfold ab_ild at hs
  split at hs
  · rename_i x hx
    cases hs
    exact lv_iload C.1 C.2.1 hd (ab_lk_at hl hx) (kk _ _ _ _ _ hR hS hl hc hq)
  · cases hs
theorem ab_o_lload_n (C : ab_Cx p s m args meth c M b z D dA L xs) {k : Fin 4} (hd : decode M.2.1 pc = .ok (.lload_n k, 1)) (hs : ab_lld k.val 1 pc lv st h = some (pc', lv', st', h')) (hR : ab_R b z D dA L xs h H) (hS : va_S (ab_A z) s.heap H locs) (hl : lv_has ls M.2.2.1 (lv.map (ab_q b z))) (hc : h.1 = c0 + cells) (hq : h.2.1 = s0 + slots) (kk : ab_KK p l e R s m args below meth c Q M.2.2.1 b z D dA L xs c0 s0 pc' lv' st' h') : W p l e R s m args below meth c H locs cells slots Q (F0 m pc ls (st.map (ab_v b z))) := by
  unfold ab_lld at hs
  split at hs
  · rename_i x hx
    cases hs
    exact lv_lload_n C.1 C.2.1 hd rfl (ab_lk_at hl hx) (kk _ _ _ _ _ hR hS hl hc hq)
  · cases hs
theorem ab_o_lload (C : ab_Cx p s m args meth c M b z D dA L xs) {k : Nat} (hd : decode M.2.1 pc = .ok (.lload k, 2)) (hs : ab_lld k 2 pc lv st h = some (pc', lv', st', h')) (hR : ab_R b z D dA L xs h H) (hS : va_S (ab_A z) s.heap H locs) (hl : lv_has ls M.2.2.1 (lv.map (ab_q b z))) (hc : h.1 = c0 + cells) (hq : h.2.1 = s0 + slots) (kk : ab_KK p l e R s m args below meth c Q M.2.2.1 b z D dA L xs c0 s0 pc' lv' st' h') : W p l e R s m args below meth c H locs cells slots Q (F0 m pc ls (st.map (ab_v b z))) := by
  unfold ab_lld at hs
  split at hs
  · rename_i x hx
    cases hs
    exact lv_lload C.1 C.2.1 hd (ab_lk_at hl hx) (kk _ _ _ _ _ hR hS hl hc hq)
  · cases hs
theorem ab_o_aload_n (C : ab_Cx p s m args meth c M b z D dA L xs) {k : Fin 4} (hd : decode M.2.1 pc = .ok (.aload_n k, 1)) (hs : ab_ald k.val 1 pc lv st h = some (pc', lv', st', h')) (hR : ab_R b z D dA L xs h H) (hS : va_S (ab_A z) s.heap H locs) (hl : lv_has ls M.2.2.1 (lv.map (ab_q b z))) (hc : h.1 = c0 + cells) (hq : h.2.1 = s0 + slots) (kk : ab_KK p l e R s m args below meth c Q M.2.2.1 b z D dA L xs c0 s0 pc' lv' st' h') : W p l e R s m args below meth c H locs cells slots Q (F0 m pc ls (st.map (ab_v b z))) := by
  unfold ab_ald at hs
  split at hs
  · rename_i x hx
    cases hs
    exact lv_aload_n C.1 C.2.1 hd rfl (ab_lk_at hl hx) (kk _ _ _ _ _ hR hS hl hc hq)
  · rename_i x hx
    cases hs
    have hk := kk _ _ _ _ _ hR hS hl hc hq
    have ha := ab_lk_at hl hx
    have ev : ab_v b z (.retAddr x) = va_rf (b.2 x) := rfl
    rw [ev] at ha
    have hk2 : W p l e R s m args below meth c H locs cells slots Q (F0 m (pc + 1) ls (va_rf (b.2 x) :: st.map (ab_v b z))) := hk
    cases ho : b.2 x with
    | none =>
      rw [ho] at ha hk2
      exact lv_aload_nN C.1 C.2.1 hd rfl ha hk2
    | some a =>
      rw [ho] at ha hk2
      exact lv_aload_n C.1 C.2.1 hd rfl ha hk2
  · cases hs
theorem ab_o_aload (C : ab_Cx p s m args meth c M b z D dA L xs) {k : Nat} (hd : decode M.2.1 pc = .ok (.aload k, 2)) (hs : ab_ald k 2 pc lv st h = some (pc', lv', st', h')) (hR : ab_R b z D dA L xs h H) (hS : va_S (ab_A z) s.heap H locs) (hl : lv_has ls M.2.2.1 (lv.map (ab_q b z))) (hc : h.1 = c0 + cells) (hq : h.2.1 = s0 + slots) (kk : ab_KK p l e R s m args below meth c Q M.2.2.1 b z D dA L xs c0 s0 pc' lv' st' h') : W p l e R s m args below meth c H locs cells slots Q (F0 m pc ls (st.map (ab_v b z))) := by
  unfold ab_ald at hs
  split at hs
  · rename_i x hx
    cases hs
    exact lv_aload C.1 C.2.1 hd (ab_lk_at hl hx) (kk _ _ _ _ _ hR hS hl hc hq)
  · rename_i x hx
    cases hs
    have hk := kk _ _ _ _ _ hR hS hl hc hq
    have ha := ab_lk_at hl hx
    have ev : ab_v b z (.retAddr x) = va_rf (b.2 x) := rfl
    rw [ev] at ha
    have hk2 : W p l e R s m args below meth c H locs cells slots Q (F0 m (pc + 2) ls (va_rf (b.2 x) :: st.map (ab_v b z))) := hk
    cases ho : b.2 x with
    | none =>
      rw [ho] at ha hk2
      exact lv_aloadN C.1 C.2.1 hd ha hk2
    | some a =>
      rw [ho] at ha hk2
      exact lv_aload C.1 C.2.1 hd ha hk2
  · cases hs
theorem ab_o_istore_n (C : ab_Cx p s m args meth c M b z D dA L xs) {k : Fin 4} (hd : decode M.2.1 pc = .ok (.istore_n k, 1)) (hs : ab_ist M.2.2.1 k.val 1 pc lv st h = some (pc', lv', st', h')) (hR : ab_R b z D dA L xs h H) (hS : va_S (ab_A z) s.heap H locs) (hl : lv_has ls M.2.2.1 (lv.map (ab_q b z))) (hc : h.1 = c0 + cells) (hq : h.2.1 = s0 + slots) (kk : ab_KK p l e R s m args below meth c Q M.2.2.1 b z D dA L xs c0 s0 pc' lv' st' h') : W p l e R s m args below meth c H locs cells slots Q (F0 m pc ls (st.map (ab_v b z))) := by
  unfold ab_ist at hs
  split at hs
  · rename_i x r
    split at hs
    · rename_i hi
      cases hs
      exact lv_istore_n (lv' := (ab_s1 k.val (.int x) lv).map (ab_q b z)) C.1 C.2.1 hd rfl hl hi (ab_s1_map b z k.val (.int x) lv) (fun ls hl => kk _ _ _ _ _ hR hS hl hc hq)
    · cases hs
  · cases hs
theorem ab_o_istore (C : ab_Cx p s m args meth c M b z D dA L xs) {k : Nat} (hd : decode M.2.1 pc = .ok (.istore k, 2)) (hs : ab_ist M.2.2.1 k 2 pc lv st h = some (pc', lv', st', h')) (hR : ab_R b z D dA L xs h H) (hS : va_S (ab_A z) s.heap H locs) (hl : lv_has ls M.2.2.1 (lv.map (ab_q b z))) (hc : h.1 = c0 + cells) (hq : h.2.1 = s0 + slots) (kk : ab_KK p l e R s m args below meth c Q M.2.2.1 b z D dA L xs c0 s0 pc' lv' st' h') : W p l e R s m args below meth c H locs cells slots Q (F0 m pc ls (st.map (ab_v b z))) := by
  unfold ab_ist at hs
  split at hs
  · rename_i x r
    split at hs
    · rename_i hi
      cases hs
      exact lv_istore (lv' := (ab_s1 k (.int x) lv).map (ab_q b z)) C.1 C.2.1 hd hl hi (ab_s1_map b z k (.int x) lv) (fun ls hl => kk _ _ _ _ _ hR hS hl hc hq)
    · cases hs
  · cases hs
theorem ab_o_lstore_n (C : ab_Cx p s m args meth c M b z D dA L xs) {k : Fin 4} (hd : decode M.2.1 pc = .ok (.lstore_n k, 1)) (hs : ab_lst M.2.2.1 k.val 1 pc lv st h = some (pc', lv', st', h')) (hR : ab_R b z D dA L xs h H) (hS : va_S (ab_A z) s.heap H locs) (hl : lv_has ls M.2.2.1 (lv.map (ab_q b z))) (hc : h.1 = c0 + cells) (hq : h.2.1 = s0 + slots) (kk : ab_KK p l e R s m args below meth c Q M.2.2.1 b z D dA L xs c0 s0 pc' lv' st' h') : W p l e R s m args below meth c H locs cells slots Q (F0 m pc ls (st.map (ab_v b z))) := by
  unfold ab_lst at hs
  split at hs
  · rename_i x r
    split at hs
    · rename_i hi
      cases hs
      exact lv_lstore_n (lv' := (ab_s2 k.val (.long x) lv).map (ab_q b z)) C.1 C.2.1 hd rfl hl hi (ab_s2_map b z k.val (.long x) lv) (fun ls hl => kk _ _ _ _ _ hR hS hl hc hq)
    · cases hs
  · cases hs
theorem ab_o_lstore (C : ab_Cx p s m args meth c M b z D dA L xs) {k : Nat} (hd : decode M.2.1 pc = .ok (.lstore k, 2)) (hs : ab_lst M.2.2.1 k 2 pc lv st h = some (pc', lv', st', h')) (hR : ab_R b z D dA L xs h H) (hS : va_S (ab_A z) s.heap H locs) (hl : lv_has ls M.2.2.1 (lv.map (ab_q b z))) (hc : h.1 = c0 + cells) (hq : h.2.1 = s0 + slots) (kk : ab_KK p l e R s m args below meth c Q M.2.2.1 b z D dA L xs c0 s0 pc' lv' st' h') : W p l e R s m args below meth c H locs cells slots Q (F0 m pc ls (st.map (ab_v b z))) := by
  unfold ab_lst at hs
  split at hs
  · rename_i x r
    split at hs
    · rename_i hi
      cases hs
      exact lv_lstore (lv' := (ab_s2 k (.long x) lv).map (ab_q b z)) C.1 C.2.1 hd hl hi (ab_s2_map b z k (.long x) lv) (fun ls hl => kk _ _ _ _ _ hR hS hl hc hq)
    · cases hs
  · cases hs
theorem ab_o_astore_n (C : ab_Cx p s m args meth c M b z D dA L xs) {k : Fin 4} (hd : decode M.2.1 pc = .ok (.astore_n k, 1)) (hs : ab_ast M.2.2.1 k.val 1 pc lv st h = some (pc', lv', st', h')) (hR : ab_R b z D dA L xs h H) (hS : va_S (ab_A z) s.heap H locs) (hl : lv_has ls M.2.2.1 (lv.map (ab_q b z))) (hc : h.1 = c0 + cells) (hq : h.2.1 = s0 + slots) (kk : ab_KK p l e R s m args below meth c Q M.2.2.1 b z D dA L xs c0 s0 pc' lv' st' h') : W p l e R s m args below meth c H locs cells slots Q (F0 m pc ls (st.map (ab_v b z))) := by
  unfold ab_ast at hs
  split at hs
  · rename_i x r
    split at hs
    · rename_i hi
      cases hs
      exact lv_astore_n (lv' := (ab_s1 k.val (.ref x) lv).map (ab_q b z)) C.1 C.2.1 hd rfl hl hi (ab_s1_map b z k.val (.ref x) lv) (fun ls hl => kk _ _ _ _ _ hR hS hl hc hq)
    · cases hs
  · cases hs
theorem ab_o_astore (C : ab_Cx p s m args meth c M b z D dA L xs) {k : Nat} (hd : decode M.2.1 pc = .ok (.astore k, 2)) (hs : ab_ast M.2.2.1 k 2 pc lv st h = some (pc', lv', st', h')) (hR : ab_R b z D dA L xs h H) (hS : va_S (ab_A z) s.heap H locs) (hl : lv_has ls M.2.2.1 (lv.map (ab_q b z))) (hc : h.1 = c0 + cells) (hq : h.2.1 = s0 + slots) (kk : ab_KK p l e R s m args below meth c Q M.2.2.1 b z D dA L xs c0 s0 pc' lv' st' h') : W p l e R s m args below meth c H locs cells slots Q (F0 m pc ls (st.map (ab_v b z))) := by
  unfold ab_ast at hs
  split at hs
  · rename_i x r
    split at hs
    · rename_i hi
      cases hs
      exact lv_astore (lv' := (ab_s1 k (.ref x) lv).map (ab_q b z)) C.1 C.2.1 hd hl hi (ab_s1_map b z k (.ref x) lv) (fun ls hl => kk _ _ _ _ _ hR hS hl hc hq)
    · cases hs
  · cases hs
theorem ab_o_iinc (C : ab_Cx p s m args meth c M b z D dA L xs) {i : Nat} {n : Int} (hd : decode M.2.1 pc = .ok (.iinc i n, 3)) (hs : ab_inc M.2.2.1 i n pc lv st h = some (pc', lv', st', h')) (hR : ab_R b z D dA L xs h H) (hS : va_S (ab_A z) s.heap H locs) (hl : lv_has ls M.2.2.1 (lv.map (ab_q b z))) (hc : h.1 = c0 + cells) (hq : h.2.1 = s0 + slots) (kk : ab_KK p l e R s m args below meth c Q M.2.2.1 b z D dA L xs c0 s0 pc' lv' st' h') : W p l e R s m args below meth c H locs cells slots Q (F0 m pc ls (st.map (ab_v b z))) := by
  unfold ab_inc at hs
  split at hs
  · rename_i x hx
    split at hs
    · rename_i hi
      cases hs
      obtain ⟨k, hk⟩ := List.getElem?_of_mem (List.mem_map.mpr ⟨(i, .int x), ab_lk_mem hx, rfl⟩ : ab_q b z (i, .int x) ∈ lv.map (ab_q b z))
      exact lv_iinc (lv' := (ab_s1 i (.int (x + Int32.ofInt n)) lv).map (ab_q b z)) C.1 C.2.1 hd hl hk rfl hi (ab_s1_map b z i (.int (x + Int32.ofInt n)) lv) (fun ls hl => kk _ _ _ _ _ hR hS hl hc hq)
    · cases hs
  · cases hs
theorem ab_o_iadd (C : ab_Cx p s m args meth c M b z D dA L xs) (hd : decode M.2.1 pc = .ok (.iadd, 1)) (hs : ab_b2 (fun x y => x + y) pc lv st h = some (pc', lv', st', h')) (hR : ab_R b z D dA L xs h H) (hS : va_S (ab_A z) s.heap H locs) (hl : lv_has ls M.2.2.1 (lv.map (ab_q b z))) (hc : h.1 = c0 + cells) (hq : h.2.1 = s0 + slots) (kk : ab_KK p l e R s m args below meth c Q M.2.2.1 b z D dA L xs c0 s0 pc' lv' st' h') : W p l e R s m args below meth c H locs cells slots Q (F0 m pc ls (st.map (ab_v b z))) := by
  unfold ab_b2 at hs
  split at hs
  · cases hs
    exact lv_iadd C.1 C.2.1 hd (kk _ _ _ _ _ hR hS hl hc hq)
  · cases hs
theorem ab_o_isub (C : ab_Cx p s m args meth c M b z D dA L xs) (hd : decode M.2.1 pc = .ok (.isub, 1)) (hs : ab_b2 (fun x y => x - y) pc lv st h = some (pc', lv', st', h')) (hR : ab_R b z D dA L xs h H) (hS : va_S (ab_A z) s.heap H locs) (hl : lv_has ls M.2.2.1 (lv.map (ab_q b z))) (hc : h.1 = c0 + cells) (hq : h.2.1 = s0 + slots) (kk : ab_KK p l e R s m args below meth c Q M.2.2.1 b z D dA L xs c0 s0 pc' lv' st' h') : W p l e R s m args below meth c H locs cells slots Q (F0 m pc ls (st.map (ab_v b z))) := by
  unfold ab_b2 at hs
  split at hs
  · cases hs
    exact lv_isub C.1 C.2.1 hd (kk _ _ _ _ _ hR hS hl hc hq)
  · cases hs
theorem ab_o_imul (C : ab_Cx p s m args meth c M b z D dA L xs) (hd : decode M.2.1 pc = .ok (.imul, 1)) (hs : ab_b2 (fun x y => x * y) pc lv st h = some (pc', lv', st', h')) (hR : ab_R b z D dA L xs h H) (hS : va_S (ab_A z) s.heap H locs) (hl : lv_has ls M.2.2.1 (lv.map (ab_q b z))) (hc : h.1 = c0 + cells) (hq : h.2.1 = s0 + slots) (kk : ab_KK p l e R s m args below meth c Q M.2.2.1 b z D dA L xs c0 s0 pc' lv' st' h') : W p l e R s m args below meth c H locs cells slots Q (F0 m pc ls (st.map (ab_v b z))) := by
  unfold ab_b2 at hs
  split at hs
  · cases hs
    exact lv_imul C.1 C.2.1 hd (kk _ _ _ _ _ hR hS hl hc hq)
  · cases hs
theorem ab_o_iand (C : ab_Cx p s m args meth c M b z D dA L xs) (hd : decode M.2.1 pc = .ok (.iand, 1)) (hs : ab_b2 (fun x y => x &&& y) pc lv st h = some (pc', lv', st', h')) (hR : ab_R b z D dA L xs h H) (hS : va_S (ab_A z) s.heap H locs) (hl : lv_has ls M.2.2.1 (lv.map (ab_q b z))) (hc : h.1 = c0 + cells) (hq : h.2.1 = s0 + slots) (kk : ab_KK p l e R s m args below meth c Q M.2.2.1 b z D dA L xs c0 s0 pc' lv' st' h') : W p l e R s m args below meth c H locs cells slots Q (F0 m pc ls (st.map (ab_v b z))) := by
  unfold ab_b2 at hs
  split at hs
  · cases hs
    exact lv_iand C.1 C.2.1 hd (kk _ _ _ _ _ hR hS hl hc hq)
  · cases hs
theorem ab_o_ior (C : ab_Cx p s m args meth c M b z D dA L xs) (hd : decode M.2.1 pc = .ok (.ior, 1)) (hs : ab_b2 (fun x y => x ||| y) pc lv st h = some (pc', lv', st', h')) (hR : ab_R b z D dA L xs h H) (hS : va_S (ab_A z) s.heap H locs) (hl : lv_has ls M.2.2.1 (lv.map (ab_q b z))) (hc : h.1 = c0 + cells) (hq : h.2.1 = s0 + slots) (kk : ab_KK p l e R s m args below meth c Q M.2.2.1 b z D dA L xs c0 s0 pc' lv' st' h') : W p l e R s m args below meth c H locs cells slots Q (F0 m pc ls (st.map (ab_v b z))) := by
  unfold ab_b2 at hs
  split at hs
  · cases hs
    exact lv_ior C.1 C.2.1 hd (kk _ _ _ _ _ hR hS hl hc hq)
  · cases hs
theorem ab_o_ixor (C : ab_Cx p s m args meth c M b z D dA L xs) (hd : decode M.2.1 pc = .ok (.ixor, 1)) (hs : ab_b2 (fun x y => x ^^^ y) pc lv st h = some (pc', lv', st', h')) (hR : ab_R b z D dA L xs h H) (hS : va_S (ab_A z) s.heap H locs) (hl : lv_has ls M.2.2.1 (lv.map (ab_q b z))) (hc : h.1 = c0 + cells) (hq : h.2.1 = s0 + slots) (kk : ab_KK p l e R s m args below meth c Q M.2.2.1 b z D dA L xs c0 s0 pc' lv' st' h') : W p l e R s m args below meth c H locs cells slots Q (F0 m pc ls (st.map (ab_v b z))) := by
  unfold ab_b2 at hs
  split at hs
  · cases hs
    exact lv_ixor C.1 C.2.1 hd (kk _ _ _ _ _ hR hS hl hc hq)
  · cases hs
theorem ab_o_ishl (C : ab_Cx p s m args meth c M b z D dA L xs) (hd : decode M.2.1 pc = .ok (.ishl, 1)) (hs : ab_b2 (fun x y => x <<< (y &&& 31)) pc lv st h = some (pc', lv', st', h')) (hR : ab_R b z D dA L xs h H) (hS : va_S (ab_A z) s.heap H locs) (hl : lv_has ls M.2.2.1 (lv.map (ab_q b z))) (hc : h.1 = c0 + cells) (hq : h.2.1 = s0 + slots) (kk : ab_KK p l e R s m args below meth c Q M.2.2.1 b z D dA L xs c0 s0 pc' lv' st' h') : W p l e R s m args below meth c H locs cells slots Q (F0 m pc ls (st.map (ab_v b z))) := by
  unfold ab_b2 at hs
  split at hs
  · cases hs
    exact lv_ishl C.1 C.2.1 hd (kk _ _ _ _ _ hR hS hl hc hq)
  · cases hs
theorem ab_o_ishr (C : ab_Cx p s m args meth c M b z D dA L xs) (hd : decode M.2.1 pc = .ok (.ishr, 1)) (hs : ab_b2 (fun x y => x >>> (y &&& 31)) pc lv st h = some (pc', lv', st', h')) (hR : ab_R b z D dA L xs h H) (hS : va_S (ab_A z) s.heap H locs) (hl : lv_has ls M.2.2.1 (lv.map (ab_q b z))) (hc : h.1 = c0 + cells) (hq : h.2.1 = s0 + slots) (kk : ab_KK p l e R s m args below meth c Q M.2.2.1 b z D dA L xs c0 s0 pc' lv' st' h') : W p l e R s m args below meth c H locs cells slots Q (F0 m pc ls (st.map (ab_v b z))) := by
  unfold ab_b2 at hs
  split at hs
  · cases hs
    exact lv_ishr C.1 C.2.1 hd (kk _ _ _ _ _ hR hS hl hc hq)
  · cases hs
theorem ab_o_iushr (C : ab_Cx p s m args meth c M b z D dA L xs) (hd : decode M.2.1 pc = .ok (.iushr, 1)) (hs : ab_b2 (fun x y => (x.toUInt32 >>> (y.toUInt32 &&& Int32.toUInt32 31)).toInt32) pc lv st h = some (pc', lv', st', h')) (hR : ab_R b z D dA L xs h H) (hS : va_S (ab_A z) s.heap H locs) (hl : lv_has ls M.2.2.1 (lv.map (ab_q b z))) (hc : h.1 = c0 + cells) (hq : h.2.1 = s0 + slots) (kk : ab_KK p l e R s m args below meth c Q M.2.2.1 b z D dA L xs c0 s0 pc' lv' st' h') : W p l e R s m args below meth c H locs cells slots Q (F0 m pc ls (st.map (ab_v b z))) := by
  unfold ab_b2 at hs
  split at hs
  · cases hs
    exact lv_iushr C.1 C.2.1 hd rfl (kk _ _ _ _ _ hR hS hl hc hq)
  · cases hs
theorem ab_o_idiv (C : ab_Cx p s m args meth c M b z D dA L xs) (hd : decode M.2.1 pc = .ok (.idiv, 1)) (hs : ab_dv (fun x y => x / y) pc lv st h = some (pc', lv', st', h')) (hR : ab_R b z D dA L xs h H) (hS : va_S (ab_A z) s.heap H locs) (hl : lv_has ls M.2.2.1 (lv.map (ab_q b z))) (hc : h.1 = c0 + cells) (hq : h.2.1 = s0 + slots) (kk : ab_KK p l e R s m args below meth c Q M.2.2.1 b z D dA L xs c0 s0 pc' lv' st' h') : W p l e R s m args below meth c H locs cells slots Q (F0 m pc ls (st.map (ab_v b z))) := by
  unfold ab_dv at hs
  split at hs
  · split at hs
    · cases hs
    · rename_i hne
      cases hs
      exact lv_idiv C.1 C.2.1 hd hne (kk _ _ _ _ _ hR hS hl hc hq)
  · cases hs
theorem ab_o_irem (C : ab_Cx p s m args meth c M b z D dA L xs) (hd : decode M.2.1 pc = .ok (.irem, 1)) (hs : ab_dv (fun x y => x - x / y * y) pc lv st h = some (pc', lv', st', h')) (hR : ab_R b z D dA L xs h H) (hS : va_S (ab_A z) s.heap H locs) (hl : lv_has ls M.2.2.1 (lv.map (ab_q b z))) (hc : h.1 = c0 + cells) (hq : h.2.1 = s0 + slots) (kk : ab_KK p l e R s m args below meth c Q M.2.2.1 b z D dA L xs c0 s0 pc' lv' st' h') : W p l e R s m args below meth c H locs cells slots Q (F0 m pc ls (st.map (ab_v b z))) := by
  unfold ab_dv at hs
  split at hs
  · split at hs
    · cases hs
    · rename_i hne
      cases hs
      exact lv_irem C.1 C.2.1 hd hne (kk _ _ _ _ _ hR hS hl hc hq)
  · cases hs
theorem ab_o_ineg (C : ab_Cx p s m args meth c M b z D dA L xs) (hd : decode M.2.1 pc = .ok (.ineg, 1)) (hs : ab_b1 (fun x => -x) pc lv st h = some (pc', lv', st', h')) (hR : ab_R b z D dA L xs h H) (hS : va_S (ab_A z) s.heap H locs) (hl : lv_has ls M.2.2.1 (lv.map (ab_q b z))) (hc : h.1 = c0 + cells) (hq : h.2.1 = s0 + slots) (kk : ab_KK p l e R s m args below meth c Q M.2.2.1 b z D dA L xs c0 s0 pc' lv' st' h') : W p l e R s m args below meth c H locs cells slots Q (F0 m pc ls (st.map (ab_v b z))) := by
  unfold ab_b1 at hs
  split at hs
  · cases hs
    exact lv_ineg C.1 C.2.1 hd (kk _ _ _ _ _ hR hS hl hc hq)
  · cases hs
theorem ab_o_i2b (C : ab_Cx p s m args meth c M b z D dA L xs) (hd : decode M.2.1 pc = .ok (.i2b, 1)) (hs : ab_b1 (fun x => x.toInt8.toInt32) pc lv st h = some (pc', lv', st', h')) (hR : ab_R b z D dA L xs h H) (hS : va_S (ab_A z) s.heap H locs) (hl : lv_has ls M.2.2.1 (lv.map (ab_q b z))) (hc : h.1 = c0 + cells) (hq : h.2.1 = s0 + slots) (kk : ab_KK p l e R s m args below meth c Q M.2.2.1 b z D dA L xs c0 s0 pc' lv' st' h') : W p l e R s m args below meth c H locs cells slots Q (F0 m pc ls (st.map (ab_v b z))) := by
  unfold ab_b1 at hs
  split at hs
  · cases hs
    exact lv_i2b C.1 C.2.1 hd rfl (kk _ _ _ _ _ hR hS hl hc hq)
  · cases hs
theorem ab_o_i2s (C : ab_Cx p s m args meth c M b z D dA L xs) (hd : decode M.2.1 pc = .ok (.i2s, 1)) (hs : ab_b1 (fun x => x.toInt16.toInt32) pc lv st h = some (pc', lv', st', h')) (hR : ab_R b z D dA L xs h H) (hS : va_S (ab_A z) s.heap H locs) (hl : lv_has ls M.2.2.1 (lv.map (ab_q b z))) (hc : h.1 = c0 + cells) (hq : h.2.1 = s0 + slots) (kk : ab_KK p l e R s m args below meth c Q M.2.2.1 b z D dA L xs c0 s0 pc' lv' st' h') : W p l e R s m args below meth c H locs cells slots Q (F0 m pc ls (st.map (ab_v b z))) := by
  unfold ab_b1 at hs
  split at hs
  · cases hs
    exact lv_i2s C.1 C.2.1 hd rfl (kk _ _ _ _ _ hR hS hl hc hq)
  · cases hs
theorem ab_o_i2c (C : ab_Cx p s m args meth c M b z D dA L xs) (hd : decode M.2.1 pc = .ok (.i2c, 1)) (hs : ab_b1 (fun x => (x.toUInt32 % 65536).toInt32) pc lv st h = some (pc', lv', st', h')) (hR : ab_R b z D dA L xs h H) (hS : va_S (ab_A z) s.heap H locs) (hl : lv_has ls M.2.2.1 (lv.map (ab_q b z))) (hc : h.1 = c0 + cells) (hq : h.2.1 = s0 + slots) (kk : ab_KK p l e R s m args below meth c Q M.2.2.1 b z D dA L xs c0 s0 pc' lv' st' h') : W p l e R s m args below meth c H locs cells slots Q (F0 m pc ls (st.map (ab_v b z))) := by
  unfold ab_b1 at hs
  split at hs
  · cases hs
    exact lv_i2c C.1 C.2.1 hd rfl (kk _ _ _ _ _ hR hS hl hc hq)
  · cases hs
theorem ab_o_i2l (C : ab_Cx p s m args meth c M b z D dA L xs) (hd : decode M.2.1 pc = .ok (.i2l, 1)) (hs : ab_il pc lv st h = some (pc', lv', st', h')) (hR : ab_R b z D dA L xs h H) (hS : va_S (ab_A z) s.heap H locs) (hl : lv_has ls M.2.2.1 (lv.map (ab_q b z))) (hc : h.1 = c0 + cells) (hq : h.2.1 = s0 + slots) (kk : ab_KK p l e R s m args below meth c Q M.2.2.1 b z D dA L xs c0 s0 pc' lv' st' h') : W p l e R s m args below meth c H locs cells slots Q (F0 m pc ls (st.map (ab_v b z))) := by
  unfold ab_il at hs
  split at hs
  · cases hs
    exact lv_i2l C.1 C.2.1 hd rfl (kk _ _ _ _ _ hR hS hl hc hq)
  · cases hs
theorem ab_o_l2i (C : ab_Cx p s m args meth c M b z D dA L xs) (hd : decode M.2.1 pc = .ok (.l2i, 1)) (hs : ab_li pc lv st h = some (pc', lv', st', h')) (hR : ab_R b z D dA L xs h H) (hS : va_S (ab_A z) s.heap H locs) (hl : lv_has ls M.2.2.1 (lv.map (ab_q b z))) (hc : h.1 = c0 + cells) (hq : h.2.1 = s0 + slots) (kk : ab_KK p l e R s m args below meth c Q M.2.2.1 b z D dA L xs c0 s0 pc' lv' st' h') : W p l e R s m args below meth c H locs cells slots Q (F0 m pc ls (st.map (ab_v b z))) := by
  unfold ab_li at hs
  split at hs
  · cases hs
    exact lv_l2i C.1 C.2.1 hd rfl (kk _ _ _ _ _ hR hS hl hc hq)
  · cases hs
theorem ab_o_ladd (C : ab_Cx p s m args meth c M b z D dA L xs) (hd : decode M.2.1 pc = .ok (.ladd, 1)) (hs : ab_l2 (fun x y => x + y) pc lv st h = some (pc', lv', st', h')) (hR : ab_R b z D dA L xs h H) (hS : va_S (ab_A z) s.heap H locs) (hl : lv_has ls M.2.2.1 (lv.map (ab_q b z))) (hc : h.1 = c0 + cells) (hq : h.2.1 = s0 + slots) (kk : ab_KK p l e R s m args below meth c Q M.2.2.1 b z D dA L xs c0 s0 pc' lv' st' h') : W p l e R s m args below meth c H locs cells slots Q (F0 m pc ls (st.map (ab_v b z))) := by
  unfold ab_l2 at hs
  split at hs
  · cases hs
    exact lv_ladd C.1 C.2.1 hd (kk _ _ _ _ _ hR hS hl hc hq)
  · cases hs
theorem ab_o_lsub (C : ab_Cx p s m args meth c M b z D dA L xs) (hd : decode M.2.1 pc = .ok (.lsub, 1)) (hs : ab_l2 (fun x y => x - y) pc lv st h = some (pc', lv', st', h')) (hR : ab_R b z D dA L xs h H) (hS : va_S (ab_A z) s.heap H locs) (hl : lv_has ls M.2.2.1 (lv.map (ab_q b z))) (hc : h.1 = c0 + cells) (hq : h.2.1 = s0 + slots) (kk : ab_KK p l e R s m args below meth c Q M.2.2.1 b z D dA L xs c0 s0 pc' lv' st' h') : W p l e R s m args below meth c H locs cells slots Q (F0 m pc ls (st.map (ab_v b z))) := by
  unfold ab_l2 at hs
  split at hs
  · cases hs
    exact lv_lsub C.1 C.2.1 hd (kk _ _ _ _ _ hR hS hl hc hq)
  · cases hs
theorem ab_o_lmul (C : ab_Cx p s m args meth c M b z D dA L xs) (hd : decode M.2.1 pc = .ok (.lmul, 1)) (hs : ab_l2 (fun x y => x * y) pc lv st h = some (pc', lv', st', h')) (hR : ab_R b z D dA L xs h H) (hS : va_S (ab_A z) s.heap H locs) (hl : lv_has ls M.2.2.1 (lv.map (ab_q b z))) (hc : h.1 = c0 + cells) (hq : h.2.1 = s0 + slots) (kk : ab_KK p l e R s m args below meth c Q M.2.2.1 b z D dA L xs c0 s0 pc' lv' st' h') : W p l e R s m args below meth c H locs cells slots Q (F0 m pc ls (st.map (ab_v b z))) := by
  unfold ab_l2 at hs
  split at hs
  · cases hs
    exact lv_lmul C.1 C.2.1 hd (kk _ _ _ _ _ hR hS hl hc hq)
  · cases hs
theorem ab_o_land (C : ab_Cx p s m args meth c M b z D dA L xs) (hd : decode M.2.1 pc = .ok (.land, 1)) (hs : ab_l2 (fun x y => x &&& y) pc lv st h = some (pc', lv', st', h')) (hR : ab_R b z D dA L xs h H) (hS : va_S (ab_A z) s.heap H locs) (hl : lv_has ls M.2.2.1 (lv.map (ab_q b z))) (hc : h.1 = c0 + cells) (hq : h.2.1 = s0 + slots) (kk : ab_KK p l e R s m args below meth c Q M.2.2.1 b z D dA L xs c0 s0 pc' lv' st' h') : W p l e R s m args below meth c H locs cells slots Q (F0 m pc ls (st.map (ab_v b z))) := by
  unfold ab_l2 at hs
  split at hs
  · cases hs
    exact lv_land C.1 C.2.1 hd (kk _ _ _ _ _ hR hS hl hc hq)
  · cases hs
theorem ab_o_lor (C : ab_Cx p s m args meth c M b z D dA L xs) (hd : decode M.2.1 pc = .ok (.lor, 1)) (hs : ab_l2 (fun x y => x ||| y) pc lv st h = some (pc', lv', st', h')) (hR : ab_R b z D dA L xs h H) (hS : va_S (ab_A z) s.heap H locs) (hl : lv_has ls M.2.2.1 (lv.map (ab_q b z))) (hc : h.1 = c0 + cells) (hq : h.2.1 = s0 + slots) (kk : ab_KK p l e R s m args below meth c Q M.2.2.1 b z D dA L xs c0 s0 pc' lv' st' h') : W p l e R s m args below meth c H locs cells slots Q (F0 m pc ls (st.map (ab_v b z))) := by
  unfold ab_l2 at hs
  split at hs
  · cases hs
    exact lv_lor C.1 C.2.1 hd (kk _ _ _ _ _ hR hS hl hc hq)
  · cases hs
theorem ab_o_lxor (C : ab_Cx p s m args meth c M b z D dA L xs) (hd : decode M.2.1 pc = .ok (.lxor, 1)) (hs : ab_l2 (fun x y => x ^^^ y) pc lv st h = some (pc', lv', st', h')) (hR : ab_R b z D dA L xs h H) (hS : va_S (ab_A z) s.heap H locs) (hl : lv_has ls M.2.2.1 (lv.map (ab_q b z))) (hc : h.1 = c0 + cells) (hq : h.2.1 = s0 + slots) (kk : ab_KK p l e R s m args below meth c Q M.2.2.1 b z D dA L xs c0 s0 pc' lv' st' h') : W p l e R s m args below meth c H locs cells slots Q (F0 m pc ls (st.map (ab_v b z))) := by
  unfold ab_l2 at hs
  split at hs
  · cases hs
    exact lv_lxor C.1 C.2.1 hd (kk _ _ _ _ _ hR hS hl hc hq)
  · cases hs
theorem ab_o_lcmp (C : ab_Cx p s m args meth c M b z D dA L xs) (hd : decode M.2.1 pc = .ok (.lcmp, 1)) (hs : ab_lc pc lv st h = some (pc', lv', st', h')) (hR : ab_R b z D dA L xs h H) (hS : va_S (ab_A z) s.heap H locs) (hl : lv_has ls M.2.2.1 (lv.map (ab_q b z))) (hc : h.1 = c0 + cells) (hq : h.2.1 = s0 + slots) (kk : ab_KK p l e R s m args below meth c Q M.2.2.1 b z D dA L xs c0 s0 pc' lv' st' h') : W p l e R s m args below meth c H locs cells slots Q (F0 m pc ls (st.map (ab_v b z))) := by
  unfold ab_lc at hs
  split at hs
  · cases hs
    exact W.lcmp C.1 C.2.1 hd (kk _ _ _ _ _ hR hS hl hc hq)
  · cases hs
theorem ab_o_lshl (C : ab_Cx p s m args meth c M b z D dA L xs) (hd : decode M.2.1 pc = .ok (.lshl, 1)) (hs : ab_ls (fun x y => x <<< (y.toInt64 &&& 63)) pc lv st h = some (pc', lv', st', h')) (hR : ab_R b z D dA L xs h H) (hS : va_S (ab_A z) s.heap H locs) (hl : lv_has ls M.2.2.1 (lv.map (ab_q b z))) (hc : h.1 = c0 + cells) (hq : h.2.1 = s0 + slots) (kk : ab_KK p l e R s m args below meth c Q M.2.2.1 b z D dA L xs c0 s0 pc' lv' st' h') : W p l e R s m args below meth c H locs cells slots Q (F0 m pc ls (st.map (ab_v b z))) := by
  unfold ab_ls at hs
  split at hs
  · cases hs
    exact lv_lshl C.1 C.2.1 hd rfl (kk _ _ _ _ _ hR hS hl hc hq)
  · cases hs
theorem ab_o_lshr (C : ab_Cx p s m args meth c M b z D dA L xs) (hd : decode M.2.1 pc = .ok (.lshr, 1)) (hs : ab_ls (fun x y => x >>> (y.toInt64 &&& 63)) pc lv st h = some (pc', lv', st', h')) (hR : ab_R b z D dA L xs h H) (hS : va_S (ab_A z) s.heap H locs) (hl : lv_has ls M.2.2.1 (lv.map (ab_q b z))) (hc : h.1 = c0 + cells) (hq : h.2.1 = s0 + slots) (kk : ab_KK p l e R s m args below meth c Q M.2.2.1 b z D dA L xs c0 s0 pc' lv' st' h') : W p l e R s m args below meth c H locs cells slots Q (F0 m pc ls (st.map (ab_v b z))) := by
  unfold ab_ls at hs
  split at hs
  · cases hs
    exact lv_lshr C.1 C.2.1 hd rfl (kk _ _ _ _ _ hR hS hl hc hq)
  · cases hs
theorem ab_o_lushr (C : ab_Cx p s m args meth c M b z D dA L xs) (hd : decode M.2.1 pc = .ok (.lushr, 1)) (hs : ab_ls (fun x y => (x.toUInt64 >>> (y.toInt64.toUInt64 &&& Int64.toUInt64 63)).toInt64) pc lv st h = some (pc', lv', st', h')) (hR : ab_R b z D dA L xs h H) (hS : va_S (ab_A z) s.heap H locs) (hl : lv_has ls M.2.2.1 (lv.map (ab_q b z))) (hc : h.1 = c0 + cells) (hq : h.2.1 = s0 + slots) (kk : ab_KK p l e R s m args below meth c Q M.2.2.1 b z D dA L xs c0 s0 pc' lv' st' h') : W p l e R s m args below meth c H locs cells slots Q (F0 m pc ls (st.map (ab_v b z))) := by
  unfold ab_ls at hs
  split at hs
  · cases hs
    exact lv_lushr C.1 C.2.1 hd rfl (kk _ _ _ _ _ hR hS hl hc hq)
  · cases hs
theorem ab_o_dup (C : ab_Cx p s m args meth c M b z D dA L xs) (hd : decode M.2.1 pc = .ok (.dup, 1)) (hs : ab_dup pc lv st h = some (pc', lv', st', h')) (hR : ab_R b z D dA L xs h H) (hS : va_S (ab_A z) s.heap H locs) (hl : lv_has ls M.2.2.1 (lv.map (ab_q b z))) (hc : h.1 = c0 + cells) (hq : h.2.1 = s0 + slots) (kk : ab_KK p l e R s m args below meth c Q M.2.2.1 b z D dA L xs c0 s0 pc' lv' st' h') : W p l e R s m args below meth c H locs cells slots Q (F0 m pc ls (st.map (ab_v b z))) := by
  unfold ab_dup at hs
  split at hs
  · split at hs
    · rename_i hv
      cases hs
      exact lv_dup C.1 C.2.1 hd (by rw [ab_v_cat]; exact hv) (kk _ _ _ _ _ hR hS hl hc hq)
    · cases hs
  · cases hs
theorem ab_o_pop (C : ab_Cx p s m args meth c M b z D dA L xs) (hd : decode M.2.1 pc = .ok (.pop, 1)) (hs : ab_pop pc lv st h = some (pc', lv', st', h')) (hR : ab_R b z D dA L xs h H) (hS : va_S (ab_A z) s.heap H locs) (hl : lv_has ls M.2.2.1 (lv.map (ab_q b z))) (hc : h.1 = c0 + cells) (hq : h.2.1 = s0 + slots) (kk : ab_KK p l e R s m args below meth c Q M.2.2.1 b z D dA L xs c0 s0 pc' lv' st' h') : W p l e R s m args below meth c H locs cells slots Q (F0 m pc ls (st.map (ab_v b z))) := by
  unfold ab_pop at hs
  split at hs
  · split at hs
    · rename_i hv
      cases hs
      exact lv_pop C.1 C.2.1 hd (by rw [ab_v_cat]; exact hv) (kk _ _ _ _ _ hR hS hl hc hq)
    · cases hs
  · cases hs
theorem ab_o_dup_x1 (C : ab_Cx p s m args meth c M b z D dA L xs) (hd : decode M.2.1 pc = .ok (.dup_x1, 1)) (hs : ab_dx1 pc lv st h = some (pc', lv', st', h')) (hR : ab_R b z D dA L xs h H) (hS : va_S (ab_A z) s.heap H locs) (hl : lv_has ls M.2.2.1 (lv.map (ab_q b z))) (hc : h.1 = c0 + cells) (hq : h.2.1 = s0 + slots) (kk : ab_KK p l e R s m args below meth c Q M.2.2.1 b z D dA L xs c0 s0 pc' lv' st' h') : W p l e R s m args below meth c H locs cells slots Q (F0 m pc ls (st.map (ab_v b z))) := by
  unfold ab_dx1 at hs
  split at hs
  · split at hs
    · rename_i hv
      cases hs
      exact lv_dup_x1 C.1 C.2.1 hd (by rw [ab_v_cat]; exact hv.1) (by rw [ab_v_cat]; exact hv.2) (kk _ _ _ _ _ hR hS hl hc hq)
    · cases hs
  · cases hs
theorem ab_o_dup2 (C : ab_Cx p s m args meth c M b z D dA L xs) (hd : decode M.2.1 pc = .ok (.dup2, 1)) (hs : ab_d2 pc lv st h = some (pc', lv', st', h')) (hR : ab_R b z D dA L xs h H) (hS : va_S (ab_A z) s.heap H locs) (hl : lv_has ls M.2.2.1 (lv.map (ab_q b z))) (hc : h.1 = c0 + cells) (hq : h.2.1 = s0 + slots) (kk : ab_KK p l e R s m args below meth c Q M.2.2.1 b z D dA L xs c0 s0 pc' lv' st' h') : W p l e R s m args below meth c H locs cells slots Q (F0 m pc ls (st.map (ab_v b z))) := by
  unfold ab_d2 at hs
  split at hs
  · split at hs
    · rename_i hv
      cases hs
      exact lv_dup2_11 C.1 C.2.1 hd (by rw [ab_v_cat]; exact hv.1) (by rw [ab_v_cat]; exact hv.2) (kk _ _ _ _ _ hR hS hl hc hq)
    · cases hs
  · cases hs
theorem ab_jp_of {off : Int} (hs : ab_jp pc off lv st h = some (pc', lv', st', h')) : (pc : Int) + off = (pc' : Int) ∧ lv' = lv ∧ st' = st ∧ h' = h := by
  unfold ab_jp at hs
  split at hs
  · rename_i h0
    cases hs
    exact ⟨(Int.toNat_of_nonneg h0).symm, rfl, rfl, rfl⟩
  · cases hs
theorem ab_cd_t {cd : ClassFile.Cond} {x y : Int32} (q : ab_cd cd x y = true) : match cd with
  | .eq => x = y
  | .ne => ¬ x = y
  | .lt => x < y
  | .ge => y ≤ x
  | .gt => y < x
  | .le => x ≤ y := by cases cd <;> exact of_decide_eq_true q
theorem ab_cd_f {cd : ClassFile.Cond} {x y : Int32} (q : ¬ ab_cd cd x y = true) : match cd with
  | .eq => ¬ x = y
  | .ne => ¬ ¬ x = y
  | .lt => ¬ x < y
  | .ge => ¬ y ≤ x
  | .gt => ¬ y < x
  | .le => ¬ x ≤ y := by cases cd <;> exact fun z => q (decide_eq_true z)
theorem ab_o_goto (C : ab_Cx p s m args meth c M b z D dA L xs) {off : Int} (hd : decode M.2.1 pc = .ok (.goto off, 3)) (hs : ab_jp pc off lv st h = some (pc', lv', st', h')) (hR : ab_R b z D dA L xs h H) (hS : va_S (ab_A z) s.heap H locs) (hl : lv_has ls M.2.2.1 (lv.map (ab_q b z))) (hc : h.1 = c0 + cells) (hq : h.2.1 = s0 + slots) (kk : ab_KK p l e R s m args below meth c Q M.2.2.1 b z D dA L xs c0 s0 pc' lv' st' h') : W p l e R s m args below meth c H locs cells slots Q (F0 m pc ls (st.map (ab_v b z))) := by
  obtain ⟨ht, rfl, rfl, rfl⟩ := ab_jp_of hs
  exact lv_goto C.1 C.2.1 hd ht (kk _ _ _ _ _ hR hS hl hc hq)
theorem ab_o_if (C : ab_Cx p s m args meth c M b z D dA L xs) {cd : ClassFile.Cond} {off : Int} (hd : decode M.2.1 pc = .ok (.ifCond cd off, 3)) (hp : 0 ≤ (pc : Int) + off) (hs : ab_if cd off pc lv st h = some (pc', lv', st', h')) (hR : ab_R b z D dA L xs h H) (hS : va_S (ab_A z) s.heap H locs) (hl : lv_has ls M.2.2.1 (lv.map (ab_q b z))) (hc : h.1 = c0 + cells) (hq : h.2.1 = s0 + slots) (kk : ab_KK p l e R s m args below meth c Q M.2.2.1 b z D dA L xs c0 s0 pc' lv' st' h') : W p l e R s m args below meth c H locs cells slots Q (F0 m pc ls (st.map (ab_v b z))) := by
  have htg : (pc : Int) + off = ((((pc : Int) + off).toNat : Nat) : Int) := (Int.toNat_of_nonneg hp).symm
  unfold ab_if at hs
  split at hs
  · rename_i x r
    split at hs
    · rename_i hcd
      obtain ⟨ht, rfl, rfl, rfl⟩ := ab_jp_of hs
      have hcd := ab_cd_t hcd
      cases cd with
      | eq => exact lv_if_eq C.1 C.2.1 hd ht (fun _ => kk _ _ _ _ _ hR hS hl hc hq) (fun q => absurd hcd q)
      | ne => exact lv_if_ne C.1 C.2.1 hd ht (fun _ => kk _ _ _ _ _ hR hS hl hc hq) (fun q => absurd hcd (fun n => n q))
      | lt => exact lv_if_lt C.1 C.2.1 hd ht (fun _ => kk _ _ _ _ _ hR hS hl hc hq) (fun q => absurd hcd q)
      | ge => exact lv_if_ge C.1 C.2.1 hd ht (fun _ => kk _ _ _ _ _ hR hS hl hc hq) (fun q => absurd hcd q)
      | gt => exact lv_if_gt C.1 C.2.1 hd ht (fun _ => kk _ _ _ _ _ hR hS hl hc hq) (fun q => absurd hcd q)
      | le => exact lv_if_le C.1 C.2.1 hd ht (fun _ => kk _ _ _ _ _ hR hS hl hc hq) (fun q => absurd hcd q)
    · rename_i hcd
      cases hs
      have hcd := ab_cd_f hcd
      cases cd with
      | eq => exact lv_if_eq (tgt := ((pc : Int) + off).toNat) C.1 C.2.1 hd htg (fun q => absurd q hcd) (fun _ => kk _ _ _ _ _ hR hS hl hc hq)
      | ne => exact lv_if_ne (tgt := ((pc : Int) + off).toNat) C.1 C.2.1 hd htg (fun q => absurd q hcd) (fun _ => kk _ _ _ _ _ hR hS hl hc hq)
      | lt => exact lv_if_lt (tgt := ((pc : Int) + off).toNat) C.1 C.2.1 hd htg (fun q => absurd q hcd) (fun _ => kk _ _ _ _ _ hR hS hl hc hq)
      | ge => exact lv_if_ge (tgt := ((pc : Int) + off).toNat) C.1 C.2.1 hd htg (fun q => absurd q hcd) (fun _ => kk _ _ _ _ _ hR hS hl hc hq)
      | gt => exact lv_if_gt (tgt := ((pc : Int) + off).toNat) C.1 C.2.1 hd htg (fun q => absurd q hcd) (fun _ => kk _ _ _ _ _ hR hS hl hc hq)
      | le => exact lv_if_le (tgt := ((pc : Int) + off).toNat) C.1 C.2.1 hd htg (fun q => absurd q hcd) (fun _ => kk _ _ _ _ _ hR hS hl hc hq)
  · cases hs
theorem ab_o_ic (C : ab_Cx p s m args meth c M b z D dA L xs) {cd : ClassFile.Cond} {off : Int} (hd : decode M.2.1 pc = .ok (.if_icmp cd off, 3)) (hp : 0 ≤ (pc : Int) + off) (hs : ab_ic cd off pc lv st h = some (pc', lv', st', h')) (hR : ab_R b z D dA L xs h H) (hS : va_S (ab_A z) s.heap H locs) (hl : lv_has ls M.2.2.1 (lv.map (ab_q b z))) (hc : h.1 = c0 + cells) (hq : h.2.1 = s0 + slots) (kk : ab_KK p l e R s m args below meth c Q M.2.2.1 b z D dA L xs c0 s0 pc' lv' st' h') : W p l e R s m args below meth c H locs cells slots Q (F0 m pc ls (st.map (ab_v b z))) := by
  have htg : (pc : Int) + off = ((((pc : Int) + off).toNat : Nat) : Int) := (Int.toNat_of_nonneg hp).symm
  unfold ab_ic at hs
  split at hs
  · rename_i y x r
    split at hs
    · rename_i hcd
      obtain ⟨ht, rfl, rfl, rfl⟩ := ab_jp_of hs
      have hcd := ab_cd_t hcd
      cases cd with
      | eq => exact lv_icmp_eq C.1 C.2.1 hd ht (fun _ => kk _ _ _ _ _ hR hS hl hc hq) (fun q => absurd hcd q)
      | ne => exact lv_icmp_ne C.1 C.2.1 hd ht (fun _ => kk _ _ _ _ _ hR hS hl hc hq) (fun q => absurd hcd (fun n => n q))
      | lt => exact lv_icmp_lt C.1 C.2.1 hd ht (fun _ => kk _ _ _ _ _ hR hS hl hc hq) (fun q => absurd hcd q)
      | ge => exact lv_icmp_ge C.1 C.2.1 hd ht (fun _ => kk _ _ _ _ _ hR hS hl hc hq) (fun q => absurd hcd q)
      | gt => exact lv_icmp_gt C.1 C.2.1 hd ht (fun _ => kk _ _ _ _ _ hR hS hl hc hq) (fun q => absurd hcd q)
      | le => exact lv_icmp_le C.1 C.2.1 hd ht (fun _ => kk _ _ _ _ _ hR hS hl hc hq) (fun q => absurd hcd q)
    · rename_i hcd
      cases hs
      have hcd := ab_cd_f hcd
      cases cd with
      | eq => exact lv_icmp_eq (tgt := ((pc : Int) + off).toNat) C.1 C.2.1 hd htg (fun q => absurd q hcd) (fun _ => kk _ _ _ _ _ hR hS hl hc hq)
      | ne => exact lv_icmp_ne (tgt := ((pc : Int) + off).toNat) C.1 C.2.1 hd htg (fun q => absurd q hcd) (fun _ => kk _ _ _ _ _ hR hS hl hc hq)
      | lt => exact lv_icmp_lt (tgt := ((pc : Int) + off).toNat) C.1 C.2.1 hd htg (fun q => absurd q hcd) (fun _ => kk _ _ _ _ _ hR hS hl hc hq)
      | ge => exact lv_icmp_ge (tgt := ((pc : Int) + off).toNat) C.1 C.2.1 hd htg (fun q => absurd q hcd) (fun _ => kk _ _ _ _ _ hR hS hl hc hq)
      | gt => exact lv_icmp_gt (tgt := ((pc : Int) + off).toNat) C.1 C.2.1 hd htg (fun q => absurd q hcd) (fun _ => kk _ _ _ _ _ hR hS hl hc hq)
      | le => exact lv_icmp_le (tgt := ((pc : Int) + off).toNat) C.1 C.2.1 hd htg (fun q => absurd q hcd) (fun _ => kk _ _ _ _ _ hR hS hl hc hq)
  · cases hs
theorem ab_o_tsw (C : ab_Cx p s m args meth c M b z D dA L xs) {d lo hi : Int} {offs : Array Int} {len : Nat} (hd : decode M.2.1 pc = .ok (.tableswitch d lo hi offs, len)) (hs : ab_tsw d lo hi offs pc lv st h = some (pc', lv', st', h')) (hR : ab_R b z D dA L xs h H) (hS : va_S (ab_A z) s.heap H locs) (hl : lv_has ls M.2.2.1 (lv.map (ab_q b z))) (hc : h.1 = c0 + cells) (hq : h.2.1 = s0 + slots) (kk : ab_KK p l e R s m args below meth c Q M.2.2.1 b z D dA L xs c0 s0 pc' lv' st' h') : W p l e R s m args below meth c H locs cells slots Q (F0 m pc ls (st.map (ab_v b z))) := by
  unfold ab_tsw at hs
  split at hs
  · split at hs
    · rename_i hx
      obtain ⟨ht, rfl, rfl, rfl⟩ := ab_jp_of hs
      exact lv_tableOut C.1 C.2.1 hd hx ht (kk _ _ _ _ _ hR hS hl hc hq)
    · rename_i hx
      split at hs
      · rename_i off ho
        obtain ⟨ht, rfl, rfl, rfl⟩ := ab_jp_of hs
        exact lv_tableIn C.1 C.2.1 hd (fun q => hx (Or.inl q)) (fun q => hx (Or.inr q)) ho ht (kk _ _ _ _ _ hR hS hl hc hq)
      · cases hs
  · cases hs
theorem ab_o_lsw (C : ab_Cx p s m args meth c M b z D dA L xs) {d : Int} {ps : Array (Int × Int)} {len : Nat} (hd : decode M.2.1 pc = .ok (.lookupswitch d ps, len)) (hs : ab_lsw d ps pc lv st h = some (pc', lv', st', h')) (hR : ab_R b z D dA L xs h H) (hS : va_S (ab_A z) s.heap H locs) (hl : lv_has ls M.2.2.1 (lv.map (ab_q b z))) (hc : h.1 = c0 + cells) (hq : h.2.1 = s0 + slots) (kk : ab_KK p l e R s m args below meth c Q M.2.2.1 b z D dA L xs c0 s0 pc' lv' st' h') : W p l e R s m args below meth c H locs cells slots Q (F0 m pc ls (st.map (ab_v b z))) := by
  unfold ab_lsw at hs
  split at hs
  · split at hs
    · rename_i hx
      obtain ⟨ht, rfl, rfl, rfl⟩ := ab_jp_of hs
      exact lv_lookup C.1 C.2.1 hd hx rfl ht (kk _ _ _ _ _ hR hS hl hc hq)
    · cases hs
  · cases hs
theorem ab_o_get (C : ab_Cx p s m args meth c M b z D dA L xs) {i ci k N : Nat} {Cn : String} {T : u_T} (hd : decode M.2.1 pc = .ok (.getfield i, 3)) (hcl : ab_cl[ci]? = some (Cn, T, N)) (hk : k < N) (hw : Cond.fieldLink M.1.cls i (T k).1 (T k).2.1 (T k).2.2.1 ∈ ab_tb) (hs : ab_get ci k pc lv st h = some (pc', lv', st', h')) (hR : ab_R b z D dA L xs h H) (hS : va_S (ab_A z) s.heap H locs) (hl : lv_has ls M.2.2.1 (lv.map (ab_q b z))) (hc : h.1 = c0 + cells) (hq : h.2.1 = s0 + slots) (kk : ab_KK p l e R s m args below meth c Q M.2.2.1 b z D dA L xs c0 s0 pc' lv' st' h') : W p l e R s m args below meth c H locs cells slots Q (F0 m pc ls (st.map (ab_v b z))) := by
  unfold ab_get at hs
  split at hs
  · rename_i a r
    split at hs
    · rename_i cj fs ho
      split at hs
      · rename_i hcj
        subst hcj
        split at hs
        · rename_i v hv
          cases hs
          obtain ⟨ha, hx⟩ := ab_rd_of ho
          have h0 := hR.pos hx
          have hat := hR.2.2.2 a h0 ha
          rw [hx] at hat
          exact va_get (D := D) (v := ab_v b z v) C.1 C.2.1 C.2.2.2.2.1 (ab_cl_ok hcl).1 C.2.2.2.1 C.2.2.2.2.2.2.2.2.1 (ab_one hat) 0 rfl hcl k hk (C.2.2.2.2.1 _ hw) (fun _ q => q) (by show (fs.map (ab_v b z))[k]? = _; rw [List.getElem?_map, hv]; rfl) hd (kk _ _ _ _ _ hR hS hl hc hq)
        · cases hs
      · cases hs
    · cases hs
  · cases hs
theorem ab_o_ial (C : ab_Cx p s m args meth c M b z D dA L xs) (hd : decode M.2.1 pc = .ok (.iaload, 1)) (hs : ab_ial pc lv st h = some (pc', lv', st', h')) (hR : ab_R b z D dA L xs h H) (hS : va_S (ab_A z) s.heap H locs) (hl : lv_has ls M.2.2.1 (lv.map (ab_q b z))) (hc : h.1 = c0 + cells) (hq : h.2.1 = s0 + slots) (kk : ab_KK p l e R s m args below meth c Q M.2.2.1 b z D dA L xs c0 s0 pc' lv' st' h') : W p l e R s m args below meth c H locs cells slots Q (F0 m pc ls (st.map (ab_v b z))) := by
  unfold ab_ial at hs
  split at hs
  · rename_i i a r
    split at hs
    · rename_i n f ho
      split at hs
      · rename_i hi
        cases hs
        obtain ⟨ha, hx⟩ := ab_rd_of ho
        rcases Nat.eq_zero_or_pos a with h0 | h0
        · subst h0
          rw [hR.2.2.1] at hx
          cases hx
          obtain ⟨-, -, -, hX, hbz, hzs, -⟩ := C.2.2.2.2.2.2.2.2
          exact va_sld C.1 C.2.1 hX (Nat.lt_of_lt_of_le hbz hzs) (Nat.not_le.mpr hbz) hS (ab_in_of hi) hd (kk _ _ _ _ _ hR hS hl hc hq)
        · have hat := hR.2.2.2 a h0 ha
          rw [hx] at hat
          exact va_iald C.1 C.2.1 C.2.2.2.2.2.2.2.2.1 (ab_one hat) 0 0 rfl ab_tys_at.1 (ab_in_of hi) hd (kk _ _ _ _ _ hR hS hl hc hq)
      · cases hs
    · cases hs
  · cases hs
theorem ab_o_bal (C : ab_Cx p s m args meth c M b z D dA L xs) (hd : decode M.2.1 pc = .ok (.baload, 1)) (hs : ab_bal pc lv st h = some (pc', lv', st', h')) (hR : ab_R b z D dA L xs h H) (hS : va_S (ab_A z) s.heap H locs) (hl : lv_has ls M.2.2.1 (lv.map (ab_q b z))) (hc : h.1 = c0 + cells) (hq : h.2.1 = s0 + slots) (kk : ab_KK p l e R s m args below meth c Q M.2.2.1 b z D dA L xs c0 s0 pc' lv' st' h') : W p l e R s m args below meth c H locs cells slots Q (F0 m pc ls (st.map (ab_v b z))) := by
  unfold ab_bal at hs
  split at hs
  · rename_i i a r
    split at hs
    · rename_i n f ho
      split at hs
      · rename_i hi
        cases hs
        obtain ⟨ha, hx⟩ := ab_rd_of ho
        rcases Nat.eq_zero_or_pos a with h0 | h0
        · subst h0
          rw [hR.2.2.1] at hx
          cases hx
        · have hat := hR.2.2.2 a h0 ha
          rw [hx] at hat
          exact va_bald C.1 C.2.1 C.2.2.2.2.2.2.2.2.1 (ab_one hat) 0 1 rfl ab_tys_at.2.1 (ab_in_of hi) hd (kk _ _ _ _ _ hR hS hl hc hq)
      · cases hs
    · rename_i n f ho
      split at hs
      · rename_i hi
        cases hs
        obtain ⟨ha, hx⟩ := ab_rd_of ho
        rcases Nat.eq_zero_or_pos a with h0 | h0
        · subst h0
          rw [hR.2.2.1] at hx
          cases hx
        · have hat := hR.2.2.2 a h0 ha
          rw [hx] at hat
          exact va_zald C.1 C.2.1 C.2.2.2.2.2.2.2.2.1 (ab_one hat) 0 3 rfl ab_tys_at.2.2.2.1 (ab_in_of hi) hd (kk _ _ _ _ _ hR hS hl hc hq)
      · cases hs
    · cases hs
  · cases hs
theorem ab_o_lal (C : ab_Cx p s m args meth c M b z D dA L xs) (hd : decode M.2.1 pc = .ok (.laload, 1)) (hs : ab_lal pc lv st h = some (pc', lv', st', h')) (hR : ab_R b z D dA L xs h H) (hS : va_S (ab_A z) s.heap H locs) (hl : lv_has ls M.2.2.1 (lv.map (ab_q b z))) (hc : h.1 = c0 + cells) (hq : h.2.1 = s0 + slots) (kk : ab_KK p l e R s m args below meth c Q M.2.2.1 b z D dA L xs c0 s0 pc' lv' st' h') : W p l e R s m args below meth c H locs cells slots Q (F0 m pc ls (st.map (ab_v b z))) := by
  unfold ab_lal at hs
  split at hs
  · rename_i i a r
    split at hs
    · rename_i n f ho
      split at hs
      · rename_i hi
        cases hs
        obtain ⟨ha, hx⟩ := ab_rd_of ho
        rcases Nat.eq_zero_or_pos a with h0 | h0
        · subst h0
          rw [hR.2.2.1] at hx
          cases hx
        · have hat := hR.2.2.2 a h0 ha
          rw [hx] at hat
          exact va_lald C.1 C.2.1 C.2.2.2.2.2.2.2.2.1 (ab_one hat) 0 2 rfl ab_tys_at.2.2.1 (ab_in_of hi) hd (kk _ _ _ _ _ hR hS hl hc hq)
      · cases hs
    · cases hs
  · cases hs
theorem ab_rf_map (b : ab_V) (z : Nat) (o : Option Nat) : va_rf (o.map (ab_ad b z)) = ab_v b z (va_rf o) := by cases o <;> rfl
theorem ab_o_aal (C : ab_Cx p s m args meth c M b z D dA L xs) (hd : decode M.2.1 pc = .ok (.aaload, 1)) (hs : ab_aal pc lv st h = some (pc', lv', st', h')) (hR : ab_R b z D dA L xs h H) (hS : va_S (ab_A z) s.heap H locs) (hl : lv_has ls M.2.2.1 (lv.map (ab_q b z))) (hc : h.1 = c0 + cells) (hq : h.2.1 = s0 + slots) (kk : ab_KK p l e R s m args below meth c Q M.2.2.1 b z D dA L xs c0 s0 pc' lv' st' h') : W p l e R s m args below meth c H locs cells slots Q (F0 m pc ls (st.map (ab_v b z))) := by
  unfold ab_aal at hs
  split at hs
  · rename_i i a r
    split at hs
    · rename_i n f ho
      split at hs
      · rename_i hi
        cases hs
        obtain ⟨ha, hx⟩ := ab_rd_of ho
        rcases Nat.eq_zero_or_pos a with h0 | h0
        · subst h0
          rw [hR.2.2.1] at hx
          cases hx
        · have hat := hR.2.2.2 a h0 ha
          rw [hx] at hat
          refine va_aldq C.1 C.2.1 C.2.2.2.2.2.2.2.2.1 (ab_one hat) 0 4 rfl ab_tys_at.2.2.2.2 (ab_in_of hi) hd ?_
          show W p l e R s m args below meth c H locs cells slots Q (F0 m (pc + 1) ls (va_rf ((f i.toNatClampNeg).map (ab_ad b z)) :: r.map (ab_v b z)))
          rw [ab_rf_map]
          exact kk _ _ _ _ _ hR hS hl hc hq
      · cases hs
    · cases hs
  · cases hs
theorem ab_o_len (C : ab_Cx p s m args meth c M b z D dA L xs) (hd : decode M.2.1 pc = .ok (.arraylength, 1)) (hs : ab_len pc lv st h = some (pc', lv', st', h')) (hR : ab_R b z D dA L xs h H) (hS : va_S (ab_A z) s.heap H locs) (hl : lv_has ls M.2.2.1 (lv.map (ab_q b z))) (hc : h.1 = c0 + cells) (hq : h.2.1 = s0 + slots) (kk : ab_KK p l e R s m args below meth c Q M.2.2.1 b z D dA L xs c0 s0 pc' lv' st' h') : W p l e R s m args below meth c H locs cells slots Q (F0 m pc ls (st.map (ab_v b z))) := by
  unfold ab_len at hs
  split at hs
  · rename_i a r
    split at hs
    · rename_i t n f ho
      split at hs
      · rename_i ht
        cases hs
        obtain ⟨ha, hx⟩ := ab_rd_of ho
        rcases Nat.eq_zero_or_pos a with h0 | h0
        · subst h0
          rw [hR.2.2.1] at hx
          cases hx
          obtain ⟨-, -, -, hX, hbz, hzs, -⟩ := C.2.2.2.2.2.2.2.2
          exact va_slen C.1 C.2.1 hX (Nat.lt_of_lt_of_le hbz hzs) (Nat.not_le.mpr hbz) hS hd (kk _ _ _ _ _ hR hS hl hc hq)
        · have hat := hR.2.2.2 a h0 ha
          rw [hx] at hat
          obtain ⟨ty, hty⟩ := ab_tys_lt (dA := dA) ht
          obtain f | f | f := f
          · exact va_alen (x := (n, .inl f)) C.1 C.2.1 C.2.2.2.2.2.2.2.2.1 (ab_one hat) 0 t rfl hty rfl hd (kk _ _ _ _ _ hR hS hl hc hq)
          · exact va_alen (x := (n, .inr (.inl f))) C.1 C.2.1 C.2.2.2.2.2.2.2.2.1 (ab_one hat) 0 t rfl hty rfl hd (kk _ _ _ _ _ hR hS hl hc hq)
          · exact va_alen (x := (n, .inr (.inr (.inr (.inr (fun j => (f j).map (ab_ad b z))))))) C.1 C.2.1 C.2.2.2.2.2.2.2.2.1 (ab_one hat) 0 t rfl hty rfl hd (kk _ _ _ _ _ hR hS hl hc hq)
      · cases hs
    · cases hs
  · cases hs
end ABS
end
section
section ABW
variable {p : Program} {l : Launch} {e : Env} {R : Room} {s : State} {m : MethodId} {args : Array Value} {below : List Frame} {meth : Method} {c : Code} {H : Heap} {locs : List Loc} {cells slots : Nat} {Q : State → Prop}
variable {M : ab_M} {b : ab_V} {z : Nat} {D : va_G} {dA : Nat → ClassId} {L : Nat} {xs : Nat → Int32} {pc pc' : Nat} {ls : Array Slot} {lv lv' : ab_L} {st st' : List Value} {h h' : ab_H} {c0 s0 : Nat}
theorem ab_ad_ge {a : Nat} (h0 : 0 < a) : ab_A z (ab_ad b z a) := by
  show z ≤ ab_ad b z a
  rw [ab_ad_pos h0]
  omega
set_option maxHeartbeats 4000000 in
theorem ab_o_put (C : ab_Cx p s m args meth c M b z D dA L xs) {i ci k N : Nat} {Cn : String} {T : u_T} (hd : decode M.2.1 pc = .ok (.putfield i, 3)) (hcl : ab_cl[ci]? = some (Cn, T, N)) (hk : k < N) (hw : Cond.fieldLink M.1.cls i (T k).1 (T k).2.1 (T k).2.2.1 ∈ ab_tb) (hfin : (T k).2.2.2 = true → M.1.name = "<init>" ∧ (T k).1 = M.1.cls) (hs : ab_put ci k pc lv st h = some (pc', lv', st', h')) (hR : ab_R b z D dA L xs h H) (hS : va_S (ab_A z) s.heap H locs) (hl : lv_has ls M.2.2.1 (lv.map (ab_q b z))) (hc : h.1 = c0 + cells) (hq : h.2.1 = s0 + slots) (kk : ab_KK p l e R s m args below meth c Q M.2.2.1 b z D dA L xs c0 s0 pc' lv' st' h') : W p l e R s m args below meth c H locs cells slots Q (F0 m pc ls (st.map (ab_v b z))) := by
  unfold ab_put at hs
  split at hs
  · rename_i v a r
    split at hs
    · rename_i cj fs ho
      split at hs
      · rename_i hcj
        obtain ⟨hcj, hkl, hft⟩ := hcj
        subst hcj
        cases hs
        obtain ⟨ha, hx⟩ := ab_rd_of ho
        have h0 := hR.pos hx
        have hat := hR.2.2.2 a h0 ha
        rw [hx] at hat
        obtain ⟨rr, hr1, cell, q1, q2, q3, q4⟩ := hat
        have hr : rr = (Cn, T, N) := Option.some.inj (hr1.symm.trans hcl)
        subst hr
        obtain ⟨hin, hty, hnm, -, -⟩ := ab_cl_ok hcl
        have hts := C.2.2.2.2.1
        have hown := C.2.2.2.1
        have hK := C.2.2.2.2.2.2.2.2.1
        obtain ⟨hn, hfit⟩ := ab_fit_of (b := b) (z := z) hft
        have hap := va_apart (own := M.1.cls) hts hin (ab_ty cj) hty hnm hK hcl
        obtain ⟨hSl, hfc, kC, hkC, hkind⟩ := hK.1 cj _ hcl
        obtain ⟨cf, kf, fi, f, hi, hsl⟩ := hSl k hk
        have hlay := hts _ (hin _ (u_in_lay hk))
        unfold u_lay at hlay
        have hst := (u_facts hfc hkC (u_lays hts hin hk) hi).1
        have hend : ∀ H1 : Heap, H1[ab_ad b z a]? = some (cell.setSlot f.slot (ab_v b z v)) → H1.size = H.size → (∀ q : Nat, q ≠ ab_ad b z a → H1[q]? = H[q]?) → W p l e R s m args below meth c H1 (locs ++ [⟨ab_ad b z a, f.slot⟩]) cells slots Q (F0 m (pc + 3) ls (st'.map (ab_v b z))) := fun H1 e1 e2 e3 => by
          rw [hsl] at e1
          refine kk H1 _ _ _ _ (hR.wr h0 e2 e3 ?_) (hS.put e2 e3 (ab_ad_ge h0)) hl hc hq
          show va_at D ab_cl (ab_ad b z a, .inr (cj, (fs.set k v).map (ab_v b z))) H1
          rw [List.map_set]
          exact ⟨_, hcl, t_OB.to (V := updV (vp_V (fs.map (ab_v b z))) k (ab_v b z v)) ⟨_, e1, q2, q3, t_set q4 hap hk (ab_v b z v)⟩ (fun j _ => vp_updV_set (by rw [List.length_map]; exact hkl) (ab_v b z v) j)⟩
        by_cases hf : (T k).2.2.2 = true
        · rw [if_pos hf] at hlay
          obtain ⟨hn1, hdecl⟩ := hfin hf
          have hcf : m.cls = cf := by
            obtain ⟨_, _, c', _, _, _, -, -, hf', -, -, -, hown2, -⟩ := Cond.laysFinal_spec hlay
            have e1 : c' = cf := by have := hi.symm.trans hf'; simp at this; exact this.1.symm
            rw [hdecl] at hown2
            rw [← e1]; exact Option.some.inj (hown.symm.trans hown2)
          have h6 := u_fits hfc hkC hkind (Or.inr hlay) hi (hty k hk) hn hfit
          exact W.putFinK C.1 C.2.1 hown (hts _ hw) hi hst hcf (C.2.2.2.2.2.2.2.1 hn1) (by rw [q2]; exact h6) q1 q3 (by rw [hsl]; exact k2_hasslot (q4 k hk)) rfl rfl hd hend
        · rw [if_neg hf] at hlay
          have h6 := u_store hfc hkC hkind hlay hi (hty k hk) hn hfit
          exact W.putK C.1 C.2.1 (f := f) ⟨hown, hts _ hw, ⟨_, _, _, hi⟩, hst⟩ (by rw [q2]; exact h6) q1 q3 (by rw [hsl]; exact k2_hasslot (q4 k hk)) rfl rfl hd hend
      · cases hs
    · cases hs
  · cases hs
theorem ab_o_ias (C : ab_Cx p s m args meth c M b z D dA L xs) (hd : decode M.2.1 pc = .ok (.iastore, 1)) (hs : ab_ias pc lv st h = some (pc', lv', st', h')) (hR : ab_R b z D dA L xs h H) (hS : va_S (ab_A z) s.heap H locs) (hl : lv_has ls M.2.2.1 (lv.map (ab_q b z))) (hc : h.1 = c0 + cells) (hq : h.2.1 = s0 + slots) (kk : ab_KK p l e R s m args below meth c Q M.2.2.1 b z D dA L xs c0 s0 pc' lv' st' h') : W p l e R s m args below meth c H locs cells slots Q (F0 m pc ls (st.map (ab_v b z))) := by
  unfold ab_ias at hs
  split at hs
  · rename_i x i a r
    split at hs
    · rename_i n f ho
      split at hs
      · rename_i hi
        obtain ⟨hi, h0⟩ := hi
        cases hs
        obtain ⟨ha, hx⟩ := ab_rd_of ho
        have h0 : 0 < a := Nat.pos_of_ne_zero h0
        have hat := hR.2.2.2 a h0 ha
        rw [hx] at hat
        have hat : H[ab_ad b z a]? = some (vp_cell (dA 0) (n, .inl f)) := hat
        refine W.iast C.1 C.2.1 hat ((C.2.2.2.2.2.2.2.2.1.2 0 _ rfl).1 n (fun j => .int (f j))) (fun q => by cases q) (by show ¬ (i < 0 ∨ (arrV _ _ _).slots.size ≤ _); rw [arrV_size]; exact ab_in_of hi) rfl rfl hd fun H1 e1 z1 o1 => ?_
        refine kk H1 _ _ _ _ (hR.wr h0 z1 o1 ?_) (hS.put z1 o1 (ab_ad_ge h0)) hl hc hq
        show H1[ab_ad b z a]? = some (vp_cell _ _)
        rw [e1, vp_cell_i, vp_cell_i, arrV_store]
        congr 2
        funext q
        by_cases hq' : q = i.toNatClampNeg
        · subst hq'
          simp [updV, upd]
        · simp [updV, upd, hq']
      · cases hs
    · cases hs
  · cases hs
theorem ab_o_bas (C : ab_Cx p s m args meth c M b z D dA L xs) (hd : decode M.2.1 pc = .ok (.bastore, 1)) (hs : ab_bas pc lv st h = some (pc', lv', st', h')) (hR : ab_R b z D dA L xs h H) (hS : va_S (ab_A z) s.heap H locs) (hl : lv_has ls M.2.2.1 (lv.map (ab_q b z))) (hc : h.1 = c0 + cells) (hq : h.2.1 = s0 + slots) (kk : ab_KK p l e R s m args below meth c Q M.2.2.1 b z D dA L xs c0 s0 pc' lv' st' h') : W p l e R s m args below meth c H locs cells slots Q (F0 m pc ls (st.map (ab_v b z))) := by
  unfold ab_bas at hs
  split at hs
  · rename_i x i a r
    split at hs
    · rename_i n f ho
      split at hs
      · rename_i hi
        obtain ⟨hi, h0⟩ := hi
        cases hs
        obtain ⟨ha, hx⟩ := ab_rd_of ho
        have h0 : 0 < a := Nat.pos_of_ne_zero h0
        have hat := hR.2.2.2 a h0 ha
        rw [hx] at hat
        have hat : H[ab_ad b z a]? = some (vp_cell (dA 1) (n, .inl f)) := hat
        refine W.bast C.1 C.2.1 hat ((C.2.2.2.2.2.2.2.2.1.2 1 _ rfl).1 n (fun j => .int (f j))) (fun q => by cases q) (by show ¬ (i < 0 ∨ (arrV _ _ _).slots.size ≤ _); rw [arrV_size]; exact ab_in_of hi) rfl rfl hd fun H1 e1 z1 o1 => ?_
        refine kk H1 _ _ _ _ (hR.wr h0 z1 o1 ?_) (hS.put z1 o1 (ab_ad_ge h0)) hl hc hq
        show H1[ab_ad b z a]? = some (vp_cell _ _)
        rw [e1, vp_cell_i, vp_cell_i, arrV_store]
        congr 2
        funext q
        by_cases hq' : q = i.toNatClampNeg
        · subst hq'
          simp [updV, upd, vp_nar]
          try rfl
        · simp [updV, upd, hq']
      · cases hs
    · rename_i n f ho
      split at hs
      · rename_i hi
        obtain ⟨hi, h0⟩ := hi
        cases hs
        obtain ⟨ha, hx⟩ := ab_rd_of ho
        have h0 : 0 < a := Nat.pos_of_ne_zero h0
        have hat := hR.2.2.2 a h0 ha
        rw [hx] at hat
        have hat : H[ab_ad b z a]? = some (vp_cell (dA 3) (n, .inl f)) := hat
        refine W.zast C.1 C.2.1 hat ((C.2.2.2.2.2.2.2.2.1.2 3 _ rfl).1 n (fun j => .int (f j))) (fun q => by cases q) (by show ¬ (i < 0 ∨ (arrV _ _ _).slots.size ≤ _); rw [arrV_size]; exact ab_in_of hi) rfl rfl hd fun H1 e1 z1 o1 => ?_
        refine kk H1 _ _ _ _ (hR.wr h0 z1 o1 ?_) (hS.put z1 o1 (ab_ad_ge h0)) hl hc hq
        show H1[ab_ad b z a]? = some (vp_cell _ _)
        rw [e1, vp_cell_i, vp_cell_i, arrV_store]
        congr 2
        funext q
        by_cases hq' : q = i.toNatClampNeg
        · subst hq'
          simp [updV, upd, vp_nar]
          try rfl
        · simp [updV, upd, hq']
      · cases hs
    · cases hs
  · cases hs
theorem ab_o_las (C : ab_Cx p s m args meth c M b z D dA L xs) (hd : decode M.2.1 pc = .ok (.lastore, 1)) (hs : ab_las pc lv st h = some (pc', lv', st', h')) (hR : ab_R b z D dA L xs h H) (hS : va_S (ab_A z) s.heap H locs) (hl : lv_has ls M.2.2.1 (lv.map (ab_q b z))) (hc : h.1 = c0 + cells) (hq : h.2.1 = s0 + slots) (kk : ab_KK p l e R s m args below meth c Q M.2.2.1 b z D dA L xs c0 s0 pc' lv' st' h') : W p l e R s m args below meth c H locs cells slots Q (F0 m pc ls (st.map (ab_v b z))) := by
  unfold ab_las at hs
  split at hs
  · rename_i x i a r
    split at hs
    · rename_i n f ho
      split at hs
      · rename_i hi
        obtain ⟨hi, h0⟩ := hi
        cases hs
        obtain ⟨ha, hx⟩ := ab_rd_of ho
        have h0 : 0 < a := Nat.pos_of_ne_zero h0
        have hat := hR.2.2.2 a h0 ha
        rw [hx] at hat
        have hat : H[ab_ad b z a]? = some (vp_cell (dA 2) (n, .inr (.inl f))) := hat
        refine W.last C.1 C.2.1 hat ((C.2.2.2.2.2.2.2.2.1.2 2 _ rfl).1 n (fun j => .long (f j))) (fun q => by cases q) (by show ¬ (i < 0 ∨ (arrV _ _ _).slots.size ≤ _); rw [arrV_size]; exact ab_in_of hi) rfl rfl hd fun H1 e1 z1 o1 => ?_
        refine kk H1 _ _ _ _ (hR.wr h0 z1 o1 ?_) (hS.put z1 o1 (ab_ad_ge h0)) hl hc hq
        show H1[ab_ad b z a]? = some (vp_cell _ _)
        rw [e1, vp_cell_l, vp_cell_l, arrV_store]
        congr 2
        funext q
        by_cases hq' : q = i.toNatClampNeg
        · subst hq'
          simp [updV, vp_updL]
        · simp [updV, vp_updL, hq']
      · cases hs
    · cases hs
  · cases hs
theorem ab_o_aas (C : ab_Cx p s m args meth c M b z D dA L xs) (hd : decode M.2.1 pc = .ok (.aastore, 1)) (hs : ab_aas pc lv st h = some (pc', lv', st', h')) (hR : ab_R b z D dA L xs h H) (hS : va_S (ab_A z) s.heap H locs) (hl : lv_has ls M.2.2.1 (lv.map (ab_q b z))) (hc : h.1 = c0 + cells) (hq : h.2.1 = s0 + slots) (kk : ab_KK p l e R s m args below meth c Q M.2.2.1 b z D dA L xs c0 s0 pc' lv' st' h') : W p l e R s m args below meth c H locs cells slots Q (F0 m pc ls (st.map (ab_v b z))) := by
  unfold ab_aas at hs
  split at hs
  · rename_i v i a r
    split at hs
    · rename_i n f ho
      split at hs
      · rename_i vs hov
        split at hs
        · rename_i hi
          obtain ⟨hi, h0⟩ := hi
          cases hs
          obtain ⟨ha, hx⟩ := ab_rd_of ho
          obtain ⟨hav, hxv⟩ := ab_rd_of hov
          have h0 : 0 < a := Nat.pos_of_ne_zero h0
          have h0v := hR.pos hxv
          have hat := hR.2.2.2 a h0 ha
          rw [hx] at hat
          have hat : H[ab_ad b z a]? = some (vp_cell (dA 4) (n, .inr (.inr (.inr (.inr (fun j => (f j).map (ab_ad b z))))))) := hat
          have hatv := hR.2.2.2 v h0v hav
          rw [hxv] at hatv
          obtain ⟨r', hr', cellV, g1, g2, g3, -⟩ := hatv
          have hin := ab_in_of hi
          have hlt : i.toNatClampNeg < n := Nat.not_le.mp fun q => hin (Or.inr q)
          have hi0 : ¬ i < 0 := fun q => hin (Or.inl q)
          have hK := C.2.2.2.2.2.2.2.2.1
          have hcls := (hK.1 6 (RX6, TX6, 3) rfl).2
          obtain ⟨kA, comp, k1, k2, k3, -⟩ := (hK.2 4 _ rfl).2
          have hcomp : comp = D.1 6 := Option.some.inj (k3.symm.trans hcls.1)
          subst hcomp
          obtain ⟨kC, hkC, -⟩ := hcls.2
          refine W.aast C.1 C.2.1 hat (fun q h => by cases h) (fun h => by cases h) k1 k2 rfl hkC ⟨hi0, by show _ < (arrV _ _ _).slots.size; rw [arrV_size]; exact hlt⟩ g1 (fun q h => by rw [g3] at h; cases h) (by rw [g2]; exact hkC) (by rw [g2]; exact va_assign hcls) rfl rfl hd fun H1 e1 z1 o1 => ?_
          refine kk H1 _ _ _ _ (hR.wr h0 z1 o1 ?_) (hS.put z1 o1 (ab_ad_ge h0)) hl hc hq
          show H1[ab_ad b z a]? = some (vp_cell _ _)
          rw [e1, vp_cell_q, vp_cell_q, arrV_store]
          congr 2
          funext q
          by_cases hq' : q = i.toNatClampNeg
          · subst hq'
            simp [updV, va_up, va_rf]
          · simp [updV, va_up, hq']
        · cases hs
      · cases hs
    · cases hs
  · cases hs
theorem ab_v_df (b : ab_V) (z : Nat) (ty : FieldType) : ab_v b z (defaultValue ty) = defaultValue ty := by cases ty <;> rfl
theorem ab_o_new (C : ab_Cx p s m args meth c M b z D dA L xs) {i ci N : Nat} {Cn : String} {T : u_T} (hd : decode M.2.1 pc = .ok (.new i, 3)) (hcl : ab_cl[ci]? = some (Cn, T, N)) (hw : Cond.classLink M.1.cls i Cn ∈ ab_tb) (hs : ab_new ci pc lv st h = some (pc', lv', st', h')) (hR : ab_R b z D dA L xs h H) (hS : va_S (ab_A z) s.heap H locs) (hl : lv_has ls M.2.2.1 (lv.map (ab_q b z))) (hc : h.1 = c0 + cells) (hq : h.2.1 = s0 + slots) (hc2 : h'.1 ≤ c0 + R.cells) (hq2 : h'.2.1 ≤ s0 + R.slots) (kk : ab_KK p l e R s m args below meth c Q M.2.2.1 b z D dA L xs c0 s0 pc' lv' st' h') : W p l e R s m args below meth c H locs cells slots Q (F0 m pc ls (st.map (ab_v b z))) := by
  cases hs
  obtain ⟨hin, hty, hnm, ⟨hini, hins⟩, hN⟩ := ab_cl_ok hcl
  subst hN
  have hts := C.2.2.2.2.1
  have hK := C.2.2.2.2.2.2.2.2.1
  have hKn := hK.1 ci _ hcl
  have hc2 : h.1 + 1 ≤ c0 + R.cells := hc2
  have hq2 : h.2.1 + ab_N ci ≤ s0 + R.slots := hq2
  refine W.newcK C.1 C.2.1 C.2.2.2.1 (hts _ hw) (hts _ hins) (hts _ hini) rfl hd (by omega) (by omega) hKn.2.1 rfl fun H1 kC hkC e1 z1 o1 => ?_
  have hadr : Value.ref H.size = ab_v b z (.ref h.1) := by
    show Value.ref H.size = Value.ref (ab_ad b z h.1)
    rw [ab_ad_pos hR.2.1]
    have g1 := hR.1
    have g2 := hR.2.1
    exact congrArg Value.ref (show (H.size : Nat) = z + (h.1 - 1) by omega)
  rw [hadr]
  refine kk H1 _ _ _ _ (hR.nw z1 o1 ?_) (ab_S_push hS z1 o1) hl (by show h.1 + 1 = c0 + (cells + 1); omega) (by show h.2.1 + ab_N ci = s0 + (slots + ab_N ci); omega)
  refine ⟨_, hcl, (u_born (ab_ty ci) hts hin hKn hkC e1 hty).to fun j hj => ?_⟩
  show defaultValue (ab_ty ci j) = ((ab_df ci).map (ab_v b z)).getD j .null
  have hj : j < ab_N ci := hj
  simp only [ab_df, List.getD_eq_getElem?_getD, List.getElem?_map, List.getElem?_range hj, Option.map_some, Option.getD_some, ab_v_df]
theorem ab_o_nwa (C : ab_Cx p s m args meth c M b z D dA L xs) {t : ArrayType} (hd : decode M.2.1 pc = .ok (.newarray t, 2)) (hw : Cond.arrayClass (newarray.typeOf t) ∈ ab_tb) (hs : ab_nwa t pc lv st h = some (pc', lv', st', h')) (hR : ab_R b z D dA L xs h H) (hS : va_S (ab_A z) s.heap H locs) (hl : lv_has ls M.2.2.1 (lv.map (ab_q b z))) (hc : h.1 = c0 + cells) (hq : h.2.1 = s0 + slots) (hc2 : h'.1 ≤ c0 + R.cells) (hq2 : h'.2.1 ≤ s0 + R.slots) (kk : ab_KK p l e R s m args below meth c Q M.2.2.1 b z D dA L xs c0 s0 pc' lv' st' h') : W p l e R s m args below meth c H locs cells slots Q (F0 m pc ls (st.map (ab_v b z))) := by
  unfold ab_nwa at hs
  split at hs
  · rename_i n r
    split at hs
    · rename_i q0 htau
      split at hs
      · rename_i hn
        obtain ⟨hn, hle⟩ := hn
        cases hs
        have hK := C.2.2.2.2.2.2.2.2.1
        have hc2 : h.1 + 1 ≤ c0 + R.cells := hc2
        have hq2 : h.2.1 + n.toNatClampNeg ≤ s0 + R.slots := hq2
        have hadr : Value.ref H.size = ab_v b z (.ref h.1) := by
          show Value.ref H.size = Value.ref (ab_ad b z h.1)
          rw [ab_ad_pos hR.2.1]
          have g1 := hR.1
          have g2 := hR.2.1
          exact congrArg Value.ref (show (H.size : Nat) = z + (h.1 - 1) by omega)
        refine va_newaK C.1 C.2.1 (C.2.2.2.2.1 _ hw) rfl hd rfl hn rfl (Nat.le_trans (Nat.mul_le_mul hle (show componentBytes (newarray.typeOf t) ≤ 8 by cases t <;> decide)) (by decide)) (by omega) (by omega) rfl fun H1 cA e1 z1 o1 hAr hNm => ?_
        rw [hadr]
        refine kk H1 _ _ _ _ (hR.nw z1 o1 ?_) (ab_S_push hS z1 o1) hl (by show h.1 + 1 = c0 + (cells + 1); omega) (by show h.2.1 + n.toNatClampNeg = s0 + (slots + n.toNatClampNeg); omega)
        cases t <;> first | (cases htau; done) | skip
        all_goals cases htau
        · have hca : cA = dA 3 := Option.some.inj (hNm.symm.trans (hK.2 3 _ rfl).2)
          subst hca
          show H1[H.size]? = some (vp_cell (dA 3) (n.toNatClampNeg, .inl (fun _ => 0)))
          rw [vp_cell_i]
          exact e1
        · have hca : cA = dA 1 := Option.some.inj (hNm.symm.trans (hK.2 1 _ rfl).2)
          subst hca
          show H1[H.size]? = some (vp_cell (dA 1) (n.toNatClampNeg, .inl (fun _ => 0)))
          rw [vp_cell_i]
          exact e1
        · have hca : cA = dA 0 := Option.some.inj (hNm.symm.trans (hK.2 0 _ rfl).2)
          subst hca
          show H1[H.size]? = some (vp_cell (dA 0) (n.toNatClampNeg, .inl (fun _ => 0)))
          rw [vp_cell_i]
          exact e1
        · have hca : cA = dA 2 := Option.some.inj (hNm.symm.trans (hK.2 2 _ rfl).2)
          subst hca
          show H1[H.size]? = some (vp_cell (dA 2) (n.toNatClampNeg, .inr (.inl (fun _ => 0))))
          rw [vp_cell_l]
          exact e1
      · cases hs
    · cases hs
  · cases hs
theorem ab_o_ana (C : ab_Cx p s m args meth c M b z D dA L xs) {i : Nat} (hd : decode M.2.1 pc = .ok (.anewarray i, 3)) (hw : Cond.classLink M.1.cls i RX6 ∈ ab_tb) (hs : ab_ana pc lv st h = some (pc', lv', st', h')) (hR : ab_R b z D dA L xs h H) (hS : va_S (ab_A z) s.heap H locs) (hl : lv_has ls M.2.2.1 (lv.map (ab_q b z))) (hc : h.1 = c0 + cells) (hq : h.2.1 = s0 + slots) (hc2 : h'.1 ≤ c0 + R.cells) (hq2 : h'.2.1 ≤ s0 + R.slots) (kk : ab_KK p l e R s m args below meth c Q M.2.2.1 b z D dA L xs c0 s0 pc' lv' st' h') : W p l e R s m args below meth c H locs cells slots Q (F0 m pc ls (st.map (ab_v b z))) := by
  unfold ab_ana at hs
  split at hs
  · rename_i n r
    split at hs
    · rename_i hn
      obtain ⟨hn, hle⟩ := hn
      cases hs
      have hK := C.2.2.2.2.2.2.2.2.1
      have hc2 : h.1 + 1 ≤ c0 + R.cells := hc2
      have hq2 : h.2.1 + n.toNatClampNeg ≤ s0 + R.slots := hq2
      have hadr : Value.ref H.size = ab_v b z (.ref h.1) := by
        show Value.ref H.size = Value.ref (ab_ad b z h.1)
        rw [ab_ad_pos hR.2.1]
        have g1 := hR.1
        have g2 := hR.2.1
        exact congrArg Value.ref (show (H.size : Nat) = z + (h.1 - 1) by omega)
      refine W.anew C.1 C.2.1 C.2.2.2.1 (C.2.2.2.2.1 _ hw) (va_AO.use C.2.2.2.2.2.2.2.2.2.2.1) rfl hd rfl hn (Nat.le_trans (Nat.mul_le_mul_right 4 hle) (by decide)) (by omega) (by omega) fun cA kA comp f1 f2 f3 f4 => ?_
      generalize hH1 : H.push ({ cls := cA, slots := Array.replicate n.toNatClampNeg .null, vm := .none } : Cell) = H1
      have z1 : H1.size = H.size + 1 := by rw [← hH1, Array.size_push]
      have e1 : H1[H.size]? = some (arrV cA n.toNatClampNeg (fun _ => .null)) := by rw [← hH1, Array.getElem?_push_size, ← arrV_new]
      have o1 : ∀ q : Nat, q < H.size → H1[q]? = H[q]? := fun q hq => by rw [← hH1, Array.getElem?_push, if_neg (Nat.ne_of_lt hq)]
      rw [hadr]
      refine kk H1 _ _ _ _ (hR.nw z1 o1 ?_) (ab_S_push hS z1 o1) hl (by show h.1 + 1 = c0 + (cells + 1); omega) (by show h.2.1 + n.toNatClampNeg = s0 + (slots + n.toNatClampNeg); omega)
      obtain ⟨kA', comp', -, -, -, g4⟩ := (hK.2 4 _ rfl).2
      have hca : cA = dA 4 := Option.some.inj (f1.symm.trans g4)
      subst hca
      show H1[H.size]? = some (vp_cell (dA 4) (n.toNatClampNeg, .inr (.inr (.inr (.inr (fun j => none))))))
      rw [vp_cell_q]
      exact e1
    · cases hs
  · cases hs
theorem ab_o_gs (C : ab_Cx p s m args meth c M b z D dA L xs) {i k : Nat} (hd : decode M.2.1 pc = .ok (.getstatic i, 3)) (hw : (k = 0 ∧ Cond.fieldLink M.1.cls i RX8 "HIGH" "[J" ∈ ab_tb) ∨ (k = 1 ∧ Cond.fieldLink M.1.cls i "java/lang/String" "COMPACT_STRINGS" "Z" ∈ ab_tb) ∨ (k = 2 ∧ Cond.fieldLink M.1.cls i "jdk/internal/util/Preconditions" "SIOOBE_FORMATTER" "Ljava/util/function/BiFunction;" ∈ ab_tb)) (hs : ab_gs k pc lv st h = some (pc', lv', st', h')) (hR : ab_R b z D dA L xs h H) (hS : va_S (ab_A z) s.heap H locs) (hl : lv_has ls M.2.2.1 (lv.map (ab_q b z))) (hc : h.1 = c0 + cells) (hq : h.2.1 = s0 + slots) (kk : ab_KK p l e R s m args below meth c Q M.2.2.1 b z D dA L xs c0 s0 pc' lv' st' h') : W p l e R s m args below meth c H locs cells slots Q (F0 m pc ls (st.map (ab_v b z))) := by
  obtain ⟨-, -, -, -, -, -, ⟨a, ha, -, hZ0⟩, hZ1, hZ2, -⟩ := C.2.2.2.2.2.2.2.2
  rcases hw with ⟨rfl, hw⟩ | ⟨rfl, hw⟩ | ⟨rfl, hw⟩
  · cases hs
    refine va_gets C.1 C.2.1 hZ0 hS C.2.2.2.1 (C.2.2.2.2.1 _ hw) (fun _ q => q) hd ?_
    have e1 : Value.ref a = ab_v b z (.retAddr 0) := by
      show Value.ref a = va_rf (b.2 0)
      rw [ha]
      rfl
    rw [e1]
    exact kk _ _ _ _ _ hR hS hl hc hq
  · cases hs
    exact va_gets C.1 C.2.1 hZ1 hS C.2.2.2.1 (C.2.2.2.2.1 _ hw) (fun _ q => q) hd (kk _ _ _ _ _ hR hS hl hc hq)
  · cases hs
    exact va_gets C.1 C.2.1 hZ2 hS C.2.2.2.1 (C.2.2.2.2.1 _ hw) (fun _ q => q) hd (kk _ _ _ _ _ hR hS hl hc hq)
theorem ab_o_lds (C : ab_Cx p s m args meth c M b z D dA L xs) {i k : Nat} (hd : decode M.2.1 pc = .ok (.ldc i, 2)) (hw : M.1.cls = RX4 ∧ i = (ab_si k).1) (hs : ab_lds k pc lv st h = some (pc', lv', st', h')) (hR : ab_R b z D dA L xs h H) (hS : va_S (ab_A z) s.heap H locs) (hl : lv_has ls M.2.2.1 (lv.map (ab_q b z))) (hc : h.1 = c0 + cells) (hq : h.2.1 = s0 + slots) (kk : ab_KK p l e R s m args below meth c Q M.2.2.1 b z D dA L xs c0 s0 pc' lv' st' h') : W p l e R s m args below meth c H locs cells slots Q (F0 m pc ls (st.map (ab_v b z))) := by
  unfold ab_lds at hs
  split at hs
  · rename_i hk
    cases hs
    obtain ⟨-, -, -, -, -, -, -, -, -, hx⟩ := C.2.2.2.2.2.2.2.2
    obtain ⟨a, v, ha, hv, hR1, -⟩ := hx k hk
    refine va_ldcS (own := RX4) (q := a) C.1 C.2.1 (by rw [← hw.1]; exact C.2.2.2.1) (by rw [hw.2]; exact hR1) hd ?_
    have e1 : Value.ref a = ab_v b z (.retAddr (k + 1)) := by
      show Value.ref a = va_rf (b.2 (k + 1))
      rw [ha]
      rfl
    rw [e1]
    exact kk _ _ _ _ _ hR hS hl hc hq
  · cases hs
theorem ab_o_gx (C : ab_Cx p s m args meth c M b z D dA L xs) {i f : Nat} (hd : decode M.2.1 pc = .ok (.getfield i, 3)) (hw : (f = 0 ∧ Cond.fieldLink M.1.cls i "java/lang/String" "value" "[B" ∈ ab_tb) ∨ (f = 1 ∧ Cond.fieldLink M.1.cls i "java/lang/String" "coder" "B" ∈ ab_tb)) (hs : ab_gx f pc lv st h = some (pc', lv', st', h')) (hR : ab_R b z D dA L xs h H) (hS : va_S (ab_A z) s.heap H locs) (hl : lv_has ls M.2.2.1 (lv.map (ab_q b z))) (hc : h.1 = c0 + cells) (hq : h.2.1 = s0 + slots) (kk : ab_KK p l e R s m args below meth c Q M.2.2.1 b z D dA L xs c0 s0 pc' lv' st' h') : W p l e R s m args below meth c H locs cells slots Q (F0 m pc ls (st.map (ab_v b z))) := by
  unfold ab_gx at hs
  split at hs
  · rename_i k r
    split at hs
    · rename_i hk
      obtain ⟨j, rfl⟩ : ∃ j, k = j + 1 := ⟨k - 1, by omega⟩
      obtain ⟨-, -, -, -, -, -, -, -, -, hx⟩ := C.2.2.2.2.2.2.2.2
      obtain ⟨a, v, ha, hv, -, -, hco, hva, -⟩ := hx j (by omega)
      have e0 : ab_v b z (.retAddr (j + 1)) = Value.ref a := by
        show va_rf (b.2 (j + 1)) = _
        rw [ha]
        rfl
      show W p l e R s m args below meth c H locs cells slots Q (F0 m pc ls (ab_v b z (.retAddr (j + 1)) :: r.map (ab_v b z)))
      rw [e0]
      rcases hw with ⟨rfl, hw⟩ | ⟨rfl, hw⟩
      · rw [if_pos rfl] at hs
        cases hs
        refine vk_getf C.1 C.2.1 hva hS C.2.2.2.1 (C.2.2.2.2.1 _ hw) (fun _ q => q) hd ?_
        have e1 : Value.ref v = ab_v b z (.retAddr (j + 1 + 10)) := by
          show Value.ref v = va_rf (b.2 (j + 1 + 10))
          rw [show j + 1 + 10 = j + 11 by omega, hv]
          rfl
        rw [e1]
        exact kk _ _ _ _ _ hR hS hl hc hq
      · rw [if_neg (by decide)] at hs
        cases hs
        exact vk_getf C.1 C.2.1 hco hS C.2.2.2.1 (C.2.2.2.2.1 _ hw) (fun _ q => q) hd (kk _ _ _ _ _ hR hS hl hc hq)
    · cases hs
  · cases hs
theorem ab_o_lal2 (C : ab_Cx p s m args meth c M b z D dA L xs) (hd : decode M.2.1 pc = .ok (.laload, 1)) (hs : ab_lal2 pc lv st h = some (pc', lv', st', h')) (hR : ab_R b z D dA L xs h H) (hS : va_S (ab_A z) s.heap H locs) (hl : lv_has ls M.2.2.1 (lv.map (ab_q b z))) (hc : h.1 = c0 + cells) (hq : h.2.1 = s0 + slots) (kk : ab_KK p l e R s m args below meth c Q M.2.2.1 b z D dA L xs c0 s0 pc' lv' st' h') : W p l e R s m args below meth c H locs cells slots Q (F0 m pc ls (st.map (ab_v b z))) := by
  unfold ab_lal2 at hs
  split at hs
  · rename_i i k r
    split at hs
    · rename_i hk
      obtain ⟨rfl, hi⟩ := hk
      cases hs
      obtain ⟨-, -, -, -, -, -, ⟨a, ha, hT, -⟩, -⟩ := C.2.2.2.2.2.2.2.2
      have e0 : ab_v b z (.retAddr 0) = Value.ref a := by
        show va_rf (b.2 0) = _
        rw [ha]
        rfl
      show W p l e R s m args below meth c H locs cells slots Q (F0 m pc ls (.int i :: ab_v b z (.retAddr 0) :: r.map (ab_v b z)))
      rw [e0]
      exact va_tl C.1 C.2.1 hT hS (ab_in_of hi) rfl hd (kk _ _ _ _ _ hR hS hl hc hq)
    · cases hs
  · exact ab_o_lal C hd hs hR hS hl hc hq kk
theorem ab_o_bal2 (C : ab_Cx p s m args meth c M b z D dA L xs) (hd : decode M.2.1 pc = .ok (.baload, 1)) (hs : ab_bal2 pc lv st h = some (pc', lv', st', h')) (hR : ab_R b z D dA L xs h H) (hS : va_S (ab_A z) s.heap H locs) (hl : lv_has ls M.2.2.1 (lv.map (ab_q b z))) (hc : h.1 = c0 + cells) (hq : h.2.1 = s0 + slots) (kk : ab_KK p l e R s m args below meth c Q M.2.2.1 b z D dA L xs c0 s0 pc' lv' st' h') : W p l e R s m args below meth c H locs cells slots Q (F0 m pc ls (st.map (ab_v b z))) := by
  unfold ab_bal2 at hs
  split at hs
  · rename_i i k r
    split at hs
    · rename_i hk
      obtain ⟨hk, hi⟩ := hk
      cases hs
      obtain ⟨j, rfl⟩ : ∃ j, k = j + 11 := ⟨k - 11, by omega⟩
      obtain ⟨-, -, -, -, -, -, -, -, -, hx⟩ := C.2.2.2.2.2.2.2.2
      obtain ⟨a, v, ha, hv, -, -, -, -, hT⟩ := hx j (by omega)
      have e0 : ab_v b z (.retAddr (j + 11)) = Value.ref v := by
        show va_rf (b.2 (j + 11)) = _
        rw [hv]
        rfl
      rw [show j + 11 - 11 = j by omega] at hi
      show W p l e R s m args below meth c H locs cells slots Q (F0 m pc ls (.int i :: ab_v b z (.retAddr (j + 11)) :: r.map (ab_v b z)))
      rw [e0]
      refine va_tb (v := .int ((ab_xt (j + 11 - 11)).getD i.toNatClampNeg 0)) C.1 C.2.1 hT hS (ab_in_of hi) (by rw [show j + 11 - 11 = j by omega]) hd (kk _ _ _ _ _ hR hS hl hc hq)
    · cases hs
  · exact ab_o_bal C hd hs hR hS hl hc hq kk
theorem ab_o_len2 (C : ab_Cx p s m args meth c M b z D dA L xs) (hd : decode M.2.1 pc = .ok (.arraylength, 1)) (hs : ab_len2 pc lv st h = some (pc', lv', st', h')) (hR : ab_R b z D dA L xs h H) (hS : va_S (ab_A z) s.heap H locs) (hl : lv_has ls M.2.2.1 (lv.map (ab_q b z))) (hc : h.1 = c0 + cells) (hq : h.2.1 = s0 + slots) (kk : ab_KK p l e R s m args below meth c Q M.2.2.1 b z D dA L xs c0 s0 pc' lv' st' h') : W p l e R s m args below meth c H locs cells slots Q (F0 m pc ls (st.map (ab_v b z))) := by
  unfold ab_len2 at hs
  split at hs
  · rename_i k r
    split at hs
    · rename_i hk
      cases hs
      obtain ⟨j, rfl⟩ : ∃ j, k = j + 11 := ⟨k - 11, by omega⟩
      obtain ⟨-, -, -, -, -, -, -, -, -, hx⟩ := C.2.2.2.2.2.2.2.2
      obtain ⟨a, v, ha, hv, -, -, -, -, hT⟩ := hx j (by omega)
      have e0 : ab_v b z (.retAddr (j + 11)) = Value.ref v := by
        show va_rf (b.2 (j + 11)) = _
        rw [hv]
        rfl
      show W p l e R s m args below meth c H locs cells slots Q (F0 m pc ls (ab_v b z (.retAddr (j + 11)) :: r.map (ab_v b z)))
      rw [e0]
      exact va_tlen (v := Int32.ofNat (ab_xt (j + 11 - 11)).length) C.1 C.2.1 hT hS (by rw [show j + 11 - 11 = j by omega]) hd (kk _ _ _ _ _ hR hS hl hc hq)
    · cases hs
  · exact ab_o_len C hd hs hR hS hl hc hq kk
theorem ab_int_nat {z : Int32} (hz : ¬ z < 0) : z.toInt = (z.toNatClampNeg : Int) := by
  have hz0 : (0 : Int) ≤ z.toInt := by
    have := Int32.not_lt.mp hz
    simpa using Int32.le_iff_toInt_le.mp this
  show z.toInt = ((z.toInt.toNat : Nat) : Int)
  omega
set_option maxHeartbeats 4000000 in
theorem ab_o_cpy (C : ab_Cx p s m args meth c M b z D dA L xs) {i : Nat} (hd : decode M.2.1 pc = .ok (.invokestatic i, 3)) (hw : Cond.methodLink M.1.cls i arraycopyName ∈ ab_tb) (hwn : Cond.native arraycopyName ∈ ab_tb ∧ Cond.static arraycopyName ∈ ab_tb ∧ Cond.initialized "java/lang/System" ∈ ab_tb) (hfr : 1 ≤ R.frames) (hlo : 60 ≤ R.locals) (hs : ab_cpy pc lv st h = some (pc', lv', st', h')) (hR : ab_R b z D dA L xs h H) (hS : va_S (ab_A z) s.heap H locs) (hl : lv_has ls M.2.2.1 (lv.map (ab_q b z))) (hc : h.1 = c0 + cells) (hq : h.2.1 = s0 + slots) (kk : ab_KK p l e R s m args below meth c Q M.2.2.1 b z D dA L xs c0 s0 pc' lv' st' h') : W p l e R s m args below meth c H locs cells slots Q (F0 m pc ls (st.map (ab_v b z))) := by
  unfold ab_cpy at hs
  split at hs
  · rename_i n dp a sp a0 r
    split at hs
    · rename_i n0 f ho
      split at hs
      · rename_i n1 g ho1
        split at hs
        · rename_i hcn
          obtain ⟨⟨ha1, ha0⟩, ⟨h1, h2, h3⟩, ⟨h4, h5⟩, hcat⟩ := hcn
          cases hs
          obtain ⟨hx0, hx1⟩ := ab_rd_of ho
          obtain ⟨hy0, hy1⟩ := ab_rd_of ho1
          have p0 : 0 < a0 := Nat.pos_of_ne_zero ha0
          have p1 : 0 < a := Nat.pos_of_ne_zero ha1
          have hat0 := hR.2.2.2 a0 p0 hx0
          rw [hx1] at hat0
          have hat1 := hR.2.2.2 a p1 hy0
          rw [hy1] at hat1
          have hc0 : H[ab_ad b z a0]? = some (vp_cell (dA 0) (n0, .inl f)) := hat0
          have hc1 : H[ab_ad b z a]? = some (vp_cell (dA 0) (n1, .inl g)) := hat1
          have hK := C.2.2.2.2.2.2.2.2.1
          have hts := C.2.2.2.2.1
          obtain ⟨-, k0, hk0, cm0, hkk0⟩ := (hK.2 0 _ rfl).1 n0 (fun j => .int (f j))
          obtain ⟨-, k1, hk1, cm1, hkk1⟩ := (hK.2 0 _ rfl).1 n1 (fun j => .int (g j))
          intro T hT X
          obtain ⟨vm', X', step⟩ := X.arraycopy C.1 C.2.2.2.1 (hts _ hw) (hts _ hwn.1) (hts _ hwn.2.1) (hts _ hwn.2.2) (src := ab_ad b z a0) (dst := ab_ad b z a) (cs := vp_cell (dA 0) (n0, .inl f)) (cd := vp_cell (dA 0) (n1, .inl g)) (srcPos := sp) (destPos := dp) (n := n) (by rw [hT]; exact hc0) (by rw [hT]; exact hc1)
            (fun _ h => by cases h) (fun _ h => by cases h) (fun h => by cases h) (fun h => by cases h) hk0 hk1 hkk0 hkk1 (by simp [refKind]) h1 h2 h3
            (by rw [ab_int_nat h1, ab_int_nat h3]; show ¬ _ > ((arrV (dA 0) n0 (fun j => .int (f j))).slots.size : Int); rw [arrV_size]; omega)
            (by rw [ab_int_nat h2, ab_int_nat h3]; show ¬ _ > ((arrV (dA 0) n1 (fun j => .int (g j))).slots.size : Int); rw [arrV_size]; omega)
            (fun vm₁ _ i hi => by
              have e : (vp_cell (dA 0) (n0, .inl f)).slots.getD (sp.toNatClampNeg + i) .null = .int (f (sp.toNatClampNeg + i)) := by
                show (arrV (dA 0) n0 (fun j => .int (f j))).slots.getD _ _ = _
                rw [Array.getD_eq_getD_getElem?, arrV_read _ _ (by omega)]
                rfl
              refine ⟨?_, ?_⟩
              · rw [e]
                rfl
              · rw [e]
                exact trivial)
            (g := F0 m pc ls (.int n :: .int dp :: .ref (ab_ad b z a) :: .int sp :: .ref (ab_ad b z a0) :: st'.map (ab_v b z))) rfl (by rw [C.2.2.1]; exact hl.1) (rest := st'.map (ab_v b z)) rfl (by rw [C.2.1]; exact hd) hfr (by
              have hcat2 : ((st'.map (ab_v b z)).map fun v => v.category).sum ≤ 8 := by
                rw [List.map_map]
                refine Nat.le_trans (Nat.le_of_eq ?_) hcat
                congr 1
                exact List.map_congr_left fun v _ => ab_v_cat b z v
              have hnw : nativeFrameWords "java/lang/System" "arraycopy" 5 + 11 ≤ 50 := by decide +kernel
              show 2 * 0 + _ + _ ≤ _
              omega)
          have e1 : copied (vp_cell (dA 0) (n0, .inl f)) (vp_cell (dA 0) (n1, .inl g)) sp dp n = vp_cell (dA 0) (n1, .inl (va_cpy f g sp.toNatClampNeg dp.toNatClampNeg n.toNatClampNeg)) := va_copied (fun z => .int z) (dA 0) (dA 0) f g h4
          rw [e1] at X' step
          have hlt : ab_ad b z a < H.size := (Array.getElem?_eq_some_iff.mp hc1).1
          obtain ⟨t, t1, t2⟩ := kk (H.setIfInBounds (ab_ad b z a) (vp_cell (dA 0) (n1, .inl (va_cpy f g sp.toNatClampNeg dp.toNatClampNeg n.toNatClampNeg)))) _ ls cells slots (hR.wr p1 (by simp) (fun q hq => by simp [Array.getElem?_setIfInBounds, Ne.symm hq]) (show (H.setIfInBounds (ab_ad b z a) _)[ab_ad b z a]? = some _ by simp [Array.getElem?_setIfInBounds, hlt])) ⟨by simp; exact hS.1, fun q g1 g2 => by
              rw [show (H.setIfInBounds (ab_ad b z a) _)[q]? = H[q]? by simp [Array.getElem?_setIfInBounds, Ne.symm (fun e : q = ab_ad b z a => g2 (by rw [e]; exact ab_ad_ge p1))]]
              exact hS.2.1 q g1 g2, fun q hq => by
              rcases List.mem_append.mp hq with h | h
              · exact hS.2.2 q h
              · obtain ⟨zz, -, hz⟩ := List.mem_map.mp h
                rw [← hz]
                exact ab_ad_ge p1⟩ hl hc hq _ (by rw [← hT]; rfl) X'
          exact ⟨t, step t t1, t2⟩
        · cases hs
      · cases hs
    · cases hs
  · cases hs
end ABW
end
section
/-! ===== what a program's rows must be; the run; its soundness ===== -/
def ab_so (G : Nat → Option ab_M) (M : ab_M) (pc : Nat) (it : ab_I) : Prop :=
  decode M.2.1 pc = .ok (it.1, it.2.1) ∧ it.2.1 = ab_ln it.1 it.2.1 ∧ (match it.1 with
  | .ldc i => (it.2.2.1 = 7 ∧ M.1.cls = RX4 ∧ i = (ab_si it.2.2.2.1).1) ∨ (it.2.2.1 ≠ 7 ∧ Cond.constant M.1.cls i (Int32.ofInt it.2.2.2.2.2.1) ∈ ab_tb)
  | .ldc_w i => Cond.constant M.1.cls i (Int32.ofInt it.2.2.2.2.2.1) ∈ ab_tb
  | .ldc2_w i => Cond.constantLong M.1.cls i (Int64.ofInt it.2.2.2.2.2.1) ∈ ab_tb
  | .ifCond _ off => 0 ≤ (pc : Int) + off
  | .if_icmp _ off => 0 ≤ (pc : Int) + off
  | .getfield i => (it.2.2.1 = 20 ∧ ((it.2.2.2.1 = 0 ∧ Cond.fieldLink M.1.cls i "java/lang/String" "value" "[B" ∈ ab_tb) ∨ (it.2.2.2.1 = 1 ∧ Cond.fieldLink M.1.cls i "java/lang/String" "coder" "B" ∈ ab_tb))) ∨ (it.2.2.1 ≠ 20 ∧ ∃ Cn T N, ab_cl[it.2.2.1]? = some (Cn, T, N) ∧ it.2.2.2.1 < N ∧ Cond.fieldLink M.1.cls i (T it.2.2.2.1).1 (T it.2.2.2.1).2.1 (T it.2.2.2.1).2.2.1 ∈ ab_tb)
  | .getstatic i => (it.2.2.1 = 0 ∧ Cond.fieldLink M.1.cls i RX8 "HIGH" "[J" ∈ ab_tb) ∨ (it.2.2.1 = 1 ∧ Cond.fieldLink M.1.cls i "java/lang/String" "COMPACT_STRINGS" "Z" ∈ ab_tb) ∨ (it.2.2.1 = 2 ∧ Cond.fieldLink M.1.cls i "jdk/internal/util/Preconditions" "SIOOBE_FORMATTER" "Ljava/util/function/BiFunction;" ∈ ab_tb)
  | .putfield i => ∃ Cn T N, ab_cl[it.2.2.1]? = some (Cn, T, N) ∧ it.2.2.2.1 < N ∧ Cond.fieldLink M.1.cls i (T it.2.2.2.1).1 (T it.2.2.2.1).2.1 (T it.2.2.2.1).2.2.1 ∈ ab_tb ∧ ((T it.2.2.2.1).2.2.2 = true → M.1.name = "<init>" ∧ (T it.2.2.2.1).1 = M.1.cls)
  | .new i => ∃ Cn T N, ab_cl[it.2.2.1]? = some (Cn, T, N) ∧ Cond.classLink M.1.cls i Cn ∈ ab_tb
  | .newarray t => Cond.arrayClass (newarray.typeOf t) ∈ ab_tb
  | .anewarray i => Cond.classLink M.1.cls i RX6 ∈ ab_tb
  | .invokevirtual i => (it.2.2.1 = 0 ∨ it.2.2.1 = 9) ∧ ∀ M', G it.2.2.2.1 = some M' → Cond.methodLink M.1.cls i M'.1 ∈ ab_tb ∧ (parseMethodDescriptor M'.1.desc).map (fun d => d.parameters.length) = some it.2.2.2.2.1
  | .invokestatic i => (it.2.2.1 = 8 ∧ Cond.methodLink M.1.cls i arraycopyName ∈ ab_tb) ∨ (it.2.2.1 = 1 ∧ ∀ M', G it.2.2.2.1 = some M' → Cond.methodLink M.1.cls i M'.1 ∈ ab_tb ∧ (parseMethodDescriptor M'.1.desc).map (fun d => d.parameters.length) = some it.2.2.2.2.1) ∨ (it.2.2.1 = 3 ∧ ∀ M', G it.2.2.2.1 = some M' → Cond.methodLinkNest M.1.cls i M'.1 RX9 ∈ lw_tbl ∧ (parseMethodDescriptor M'.1.desc).map (fun d => d.parameters.length) = some it.2.2.2.2.1)
  | .invokespecial i => (it.2.2.1 = 5 ∧ Cond.methodLink M.1.cls i Lib.objectInit ∈ ab_tb) ∨ (it.2.2.1 = 2 ∧ ∀ M', G it.2.2.2.1 = some M' → Cond.methodLink M.1.cls i M'.1 ∈ ab_tb ∧ (parseMethodDescriptor M'.1.desc).map (fun d => d.parameters.length) = some it.2.2.2.2.1) ∨ (it.2.2.1 = 4 ∧ ∀ M', G it.2.2.2.1 = some M' → Cond.methodLinkNest M.1.cls i M'.1 RX9 ∈ lw_tbl ∧ (parseMethodDescriptor M'.1.desc).map (fun d => d.parameters.length) = some it.2.2.2.2.1)
  | _ => True)
def ab_mo (M : ab_M) : Prop := Cond.code M.1 M.2.1 M.2.2.1 M.2.2.2.1 ∈ ab_tb ∧ Cond.initialized M.1.cls ∈ ab_tb ∧ M.1.cls ≠ "java/lang/invoke/MethodHandle" ∧ M.1.cls ≠ "java/lang/invoke/VarHandle" ∧ plainFor M.1 = true ∧ M.2.2.1 ≤ 41 ∧
  (M.2.2.2.2.1.1 = 0 → Cond.instanceMethod M.1 ∈ ab_tb ∧ Cond.selects M.1.cls M.1 M.1 ∈ ab_tb ∧ ∃ T N, ab_cl[M.2.2.2.2.1.2.1]? = some (M.1.cls, T, N)) ∧ (M.2.2.2.2.1.1 = 1 → Cond.static M.1 ∈ ab_tb) ∧ (M.2.2.2.2.1.1 = 2 → M.1.name = "<init>" ∧ Cond.instanceMethod M.1 ∈ ab_tb ∧ M.2.2.2.1 = none) ∧ (M.2.2.2.2.1.1 = 3 → Cond.instanceMethod M.1 ∈ ab_tb ∧ Cond.selects M.1.cls M.1 M.1 ∈ ab_tb ∧ M.1.cls = "java/lang/String")
def ab_ok (G : Nat → Option ab_M) (M : ab_M) : Prop := ab_mo M ∧ ∀ pc it, ab_at M.2.2.2.2.2 pc = some it → ab_so G M pc it
/-- a call's method, arguments, rest of the stack -/
def ab_cok (M : ab_M) (A rest : List Value) : Bool := decide ((lg_sl A).length ≤ M.2.2.1) && decide ((rest.map fun v => v.category).sum ≤ 8)
def ab_cal (G : Nat → Option ab_M) (it : ab_I) (st : List Value) (h : ab_H) : Option (ab_M × List Value × List Value) := match G it.2.2.2.1 with
  | none => none
  | some M => if (st.take it.2.2.2.2.1).length = it.2.2.2.2.1 then
      (if it.2.2.1 = 1 ∨ it.2.2.1 = 3 then (if M.2.2.2.2.1.1 = 1 ∧ ab_cok M (st.take it.2.2.2.2.1).reverse (st.drop it.2.2.2.2.1) = true then some (M, (st.take it.2.2.2.2.1).reverse, st.drop it.2.2.2.2.1) else none)
      else (match st.drop it.2.2.2.2.1 with
        | .ref a :: rest => if it.2.2.1 = 0 then (match ab_rd h a with
            | some (.inr (ci, _)) => if ci = M.2.2.2.2.1.2.1 ∧ M.2.2.2.2.1.1 = 0 ∧ ab_cok M (.ref a :: (st.take it.2.2.2.2.1).reverse) rest = true then some (M, .ref a :: (st.take it.2.2.2.2.1).reverse, rest) else none
            | _ => none)
          else (if (it.2.2.1 = 2 ∨ it.2.2.1 = 4) ∧ M.2.2.2.2.1.1 = 2 ∧ ab_cok M (.ref a :: (st.take it.2.2.2.2.1).reverse) rest = true then some (M, .ref a :: (st.take it.2.2.2.2.1).reverse, rest) else none)
        | .retAddr k :: rest => if it.2.2.1 = 9 ∧ (1 ≤ k ∧ k ≤ 4) ∧ M.2.2.2.2.1.1 = 3 ∧ ab_cok M (.retAddr k :: (st.take it.2.2.2.2.1).reverse) rest = true then some (M, .retAddr k :: (st.take it.2.2.2.2.1).reverse, rest) else none
        | _ => none))
    else none
def ab_kd (it : ab_I) : Nat := match it.1 with
  | .ireturn => 1
  | .lreturn => 1
  | .return_ => 1
  | .invokevirtual _ => 2
  | .invokestatic _ => if it.2.2.1 = 8 then 4 else 2
  | .invokespecial _ => if it.2.2.1 = 5 then 3 else 2
  | _ => 0
def ab_rt (M : ab_M) (it : ab_I) (st : List Value) (h : ab_H) : Option (Option Value × ab_H) := match it.1 with
  | .ireturn => (match st with
    | [.int v] => (match M.2.2.2.1 with
      | some ty => if narrow ty (.int v) = .int v then some (some (.int v), h) else none
      | none => none)
    | _ => none)
  | .lreturn => (match st with
    | [.long v] => if M.2.2.2.1 = some .long then some (some (.long v), h) else none
    | _ => none)
  | .return_ => (match st with
    | [] => if M.2.2.2.1 = none then some (none, h) else none
    | _ => none)
  | _ => none
def ab_oi (st : List Value) : Option (List Value) := match st with
  | .ref _ :: r => if (r.map fun v => v.category).sum ≤ 8 then some r else none
  | _ => none
def ab_ex (G : Nat → Option ab_M) : Nat → Nat → ab_M → Nat → ab_L → List Value → ab_H → Option (Option Value × ab_H)
  | 0, _, _, _, _, _, _ => none
  | n + 1, d, M, pc, lv, st, h => match ab_at M.2.2.2.2.2 pc with
    | none => none
    | some it => match ab_kd it with
      | 0 => (match ab_sp M.2.2.1 it pc lv st h with
        | none => none
        | some s => ab_ex G n d M s.1 s.2.1 s.2.2.1 s.2.2.2)
      | 1 => ab_rt M it st h
      | 2 => (match d with
        | 0 => none
        | d + 1 => (match ab_cal G it st h with
          | none => none
          | some q => (match ab_ex G n d q.1 0 (lv_args 0 q.2.1) [] h with
            | none => none
            | some r => ab_ex G n (d + 1) M (pc + 3) lv (r.1.toList ++ q.2.2) r.2)))
      | 4 => (match d with
        | 0 => none
        | d + 1 => (match ab_sp M.2.2.1 it pc lv st h with
          | none => none
          | some s => ab_ex G n (d + 1) M s.1 s.2.1 s.2.2.1 s.2.2.2))
      | _ => (match d with
        | 0 => none
        | d + 1 => (match ab_oi st with
          | none => none
          | some r => ab_ex G n (d + 1) M (pc + 3) lv r h))
theorem ab_m_jp {pc : Nat} {off : Int} {lv : ab_L} {st : List Value} {h : ab_H} {s' : ab_S} (hs : ab_jp pc off lv st h = some s') : h.1 ≤ s'.2.2.2.1 ∧ h.2.1 ≤ s'.2.2.2.2.1 := by
  obtain ⟨pc', lv', st', h'⟩ := s'
  obtain ⟨-, -, -, rfl⟩ := ab_jp_of hs
  exact ⟨Nat.le_refl _, Nat.le_refl _⟩
theorem ab_m_k {n pc : Nat} {v : Value} {lv : ab_L} {st : List Value} {h : ab_H} {s' : ab_S} (hs : ab_k n pc v lv st h = some s') : h.1 ≤ s'.2.2.2.1 ∧ h.2.1 ≤ s'.2.2.2.2.1 := by
  unfold ab_k at hs
  repeat' split at hs
  all_goals first | (cases hs; exact ⟨Nat.le_refl _, Nat.le_refl _⟩) | (cases hs; exact ⟨Nat.le_succ _, Nat.le_add_right _ _⟩) | cases hs
theorem ab_m_ild {i n pc : Nat} {lv : ab_L} {st : List Value} {h : ab_H} {s' : ab_S} (hs : ab_ild i n pc lv st h = some s') : h.1 ≤ s'.2.2.2.1 ∧ h.2.1 ≤ s'.2.2.2.2.1 := by
  unfold ab_ild at hs
  repeat' split at hs
  all_goals first | (cases hs; exact ⟨Nat.le_refl _, Nat.le_refl _⟩) | (cases hs; exact ⟨Nat.le_succ _, Nat.le_add_right _ _⟩) | cases hs
theorem ab_m_lld {i n pc : Nat} {lv : ab_L} {st : List Value} {h : ab_H} {s' : ab_S} (hs : ab_lld i n pc lv st h = some s') : h.1 ≤ s'.2.2.2.1 ∧ h.2.1 ≤ s'.2.2.2.2.1 := by
  unfold ab_lld at hs
  repeat' split at hs
  all_goals first | (cases hs; exact ⟨Nat.le_refl _, Nat.le_refl _⟩) | (cases hs; exact ⟨Nat.le_succ _, Nat.le_add_right _ _⟩) | cases hs
theorem ab_m_ald {i n pc : Nat} {lv : ab_L} {st : List Value} {h : ab_H} {s' : ab_S} (hs : ab_ald i n pc lv st h = some s') : h.1 ≤ s'.2.2.2.1 ∧ h.2.1 ≤ s'.2.2.2.2.1 := by
  unfold ab_ald at hs
  repeat' split at hs
  all_goals first | (cases hs; exact ⟨Nat.le_refl _, Nat.le_refl _⟩) | (cases hs; exact ⟨Nat.le_succ _, Nat.le_add_right _ _⟩) | cases hs
theorem ab_m_ist {nL i n pc : Nat} {lv : ab_L} {st : List Value} {h : ab_H} {s' : ab_S} (hs : ab_ist nL i n pc lv st h = some s') : h.1 ≤ s'.2.2.2.1 ∧ h.2.1 ≤ s'.2.2.2.2.1 := by
  unfold ab_ist at hs
  repeat' split at hs
  all_goals first | (cases hs; exact ⟨Nat.le_refl _, Nat.le_refl _⟩) | (cases hs; exact ⟨Nat.le_succ _, Nat.le_add_right _ _⟩) | cases hs
theorem ab_m_lst {nL i n pc : Nat} {lv : ab_L} {st : List Value} {h : ab_H} {s' : ab_S} (hs : ab_lst nL i n pc lv st h = some s') : h.1 ≤ s'.2.2.2.1 ∧ h.2.1 ≤ s'.2.2.2.2.1 := by
  unfold ab_lst at hs
  repeat' split at hs
  all_goals first | (cases hs; exact ⟨Nat.le_refl _, Nat.le_refl _⟩) | (cases hs; exact ⟨Nat.le_succ _, Nat.le_add_right _ _⟩) | cases hs
theorem ab_m_ast {nL i n pc : Nat} {lv : ab_L} {st : List Value} {h : ab_H} {s' : ab_S} (hs : ab_ast nL i n pc lv st h = some s') : h.1 ≤ s'.2.2.2.1 ∧ h.2.1 ≤ s'.2.2.2.2.1 := by
  unfold ab_ast at hs
  repeat' split at hs
  all_goals first | (cases hs; exact ⟨Nat.le_refl _, Nat.le_refl _⟩) | (cases hs; exact ⟨Nat.le_succ _, Nat.le_add_right _ _⟩) | cases hs
theorem ab_m_inc {nL i : Nat} {n : Int} {pc : Nat} {lv : ab_L} {st : List Value} {h : ab_H} {s' : ab_S} (hs : ab_inc nL i n pc lv st h = some s') : h.1 ≤ s'.2.2.2.1 ∧ h.2.1 ≤ s'.2.2.2.2.1 := by
  unfold ab_inc at hs
  repeat' split at hs
  all_goals first | (cases hs; exact ⟨Nat.le_refl _, Nat.le_refl _⟩) | (cases hs; exact ⟨Nat.le_succ _, Nat.le_add_right _ _⟩) | cases hs
theorem ab_m_b1 {f : Int32 → Int32} {pc : Nat} {lv : ab_L} {st : List Value} {h : ab_H} {s' : ab_S} (hs : ab_b1 f pc lv st h = some s') : h.1 ≤ s'.2.2.2.1 ∧ h.2.1 ≤ s'.2.2.2.2.1 := by
  unfold ab_b1 at hs
  repeat' split at hs
  all_goals first | (cases hs; exact ⟨Nat.le_refl _, Nat.le_refl _⟩) | (cases hs; exact ⟨Nat.le_succ _, Nat.le_add_right _ _⟩) | cases hs
theorem ab_m_b2 {f : Int32 → Int32 → Int32} {pc : Nat} {lv : ab_L} {st : List Value} {h : ab_H} {s' : ab_S} (hs : ab_b2 f pc lv st h = some s') : h.1 ≤ s'.2.2.2.1 ∧ h.2.1 ≤ s'.2.2.2.2.1 := by
  unfold ab_b2 at hs
  repeat' split at hs
  all_goals first | (cases hs; exact ⟨Nat.le_refl _, Nat.le_refl _⟩) | (cases hs; exact ⟨Nat.le_succ _, Nat.le_add_right _ _⟩) | cases hs
theorem ab_m_dv {f : Int32 → Int32 → Int32} {pc : Nat} {lv : ab_L} {st : List Value} {h : ab_H} {s' : ab_S} (hs : ab_dv f pc lv st h = some s') : h.1 ≤ s'.2.2.2.1 ∧ h.2.1 ≤ s'.2.2.2.2.1 := by
  unfold ab_dv at hs
  repeat' split at hs
  all_goals first | (cases hs; exact ⟨Nat.le_refl _, Nat.le_refl _⟩) | (cases hs; exact ⟨Nat.le_succ _, Nat.le_add_right _ _⟩) | cases hs
theorem ab_m_l2 {f : Int64 → Int64 → Int64} {pc : Nat} {lv : ab_L} {st : List Value} {h : ab_H} {s' : ab_S} (hs : ab_l2 f pc lv st h = some s') : h.1 ≤ s'.2.2.2.1 ∧ h.2.1 ≤ s'.2.2.2.2.1 := by
  unfold ab_l2 at hs
  repeat' split at hs
  all_goals first | (cases hs; exact ⟨Nat.le_refl _, Nat.le_refl _⟩) | (cases hs; exact ⟨Nat.le_succ _, Nat.le_add_right _ _⟩) | cases hs
theorem ab_m_lc {pc : Nat} {lv : ab_L} {st : List Value} {h : ab_H} {s' : ab_S} (hs : ab_lc pc lv st h = some s') : h.1 ≤ s'.2.2.2.1 ∧ h.2.1 ≤ s'.2.2.2.2.1 := by
  unfold ab_lc at hs
  repeat' split at hs
  all_goals first | (cases hs; exact ⟨Nat.le_refl _, Nat.le_refl _⟩) | (cases hs; exact ⟨Nat.le_succ _, Nat.le_add_right _ _⟩) | cases hs
theorem ab_m_ls {f : Int64 → Int32 → Int64} {pc : Nat} {lv : ab_L} {st : List Value} {h : ab_H} {s' : ab_S} (hs : ab_ls f pc lv st h = some s') : h.1 ≤ s'.2.2.2.1 ∧ h.2.1 ≤ s'.2.2.2.2.1 := by
  unfold ab_ls at hs
  repeat' split at hs
  all_goals first | (cases hs; exact ⟨Nat.le_refl _, Nat.le_refl _⟩) | (cases hs; exact ⟨Nat.le_succ _, Nat.le_add_right _ _⟩) | cases hs
theorem ab_m_il {pc : Nat} {lv : ab_L} {st : List Value} {h : ab_H} {s' : ab_S} (hs : ab_il pc lv st h = some s') : h.1 ≤ s'.2.2.2.1 ∧ h.2.1 ≤ s'.2.2.2.2.1 := by
  unfold ab_il at hs
  repeat' split at hs
  all_goals first | (cases hs; exact ⟨Nat.le_refl _, Nat.le_refl _⟩) | (cases hs; exact ⟨Nat.le_succ _, Nat.le_add_right _ _⟩) | cases hs
theorem ab_m_li {pc : Nat} {lv : ab_L} {st : List Value} {h : ab_H} {s' : ab_S} (hs : ab_li pc lv st h = some s') : h.1 ≤ s'.2.2.2.1 ∧ h.2.1 ≤ s'.2.2.2.2.1 := by
  unfold ab_li at hs
  repeat' split at hs
  all_goals first | (cases hs; exact ⟨Nat.le_refl _, Nat.le_refl _⟩) | (cases hs; exact ⟨Nat.le_succ _, Nat.le_add_right _ _⟩) | cases hs
theorem ab_m_dup {pc : Nat} {lv : ab_L} {st : List Value} {h : ab_H} {s' : ab_S} (hs : ab_dup pc lv st h = some s') : h.1 ≤ s'.2.2.2.1 ∧ h.2.1 ≤ s'.2.2.2.2.1 := by
  unfold ab_dup at hs
  repeat' split at hs
  all_goals first | (cases hs; exact ⟨Nat.le_refl _, Nat.le_refl _⟩) | (cases hs; exact ⟨Nat.le_succ _, Nat.le_add_right _ _⟩) | cases hs
theorem ab_m_pop {pc : Nat} {lv : ab_L} {st : List Value} {h : ab_H} {s' : ab_S} (hs : ab_pop pc lv st h = some s') : h.1 ≤ s'.2.2.2.1 ∧ h.2.1 ≤ s'.2.2.2.2.1 := by
  unfold ab_pop at hs
  repeat' split at hs
  all_goals first | (cases hs; exact ⟨Nat.le_refl _, Nat.le_refl _⟩) | (cases hs; exact ⟨Nat.le_succ _, Nat.le_add_right _ _⟩) | cases hs
theorem ab_m_dx1 {pc : Nat} {lv : ab_L} {st : List Value} {h : ab_H} {s' : ab_S} (hs : ab_dx1 pc lv st h = some s') : h.1 ≤ s'.2.2.2.1 ∧ h.2.1 ≤ s'.2.2.2.2.1 := by
  unfold ab_dx1 at hs
  repeat' split at hs
  all_goals first | (cases hs; exact ⟨Nat.le_refl _, Nat.le_refl _⟩) | (cases hs; exact ⟨Nat.le_succ _, Nat.le_add_right _ _⟩) | cases hs
theorem ab_m_d2 {pc : Nat} {lv : ab_L} {st : List Value} {h : ab_H} {s' : ab_S} (hs : ab_d2 pc lv st h = some s') : h.1 ≤ s'.2.2.2.1 ∧ h.2.1 ≤ s'.2.2.2.2.1 := by
  unfold ab_d2 at hs
  repeat' split at hs
  all_goals first | (cases hs; exact ⟨Nat.le_refl _, Nat.le_refl _⟩) | (cases hs; exact ⟨Nat.le_succ _, Nat.le_add_right _ _⟩) | cases hs
theorem ab_m_if {c : ClassFile.Cond} {off : Int} {pc : Nat} {lv : ab_L} {st : List Value} {h : ab_H} {s' : ab_S} (hs : ab_if c off pc lv st h = some s') : h.1 ≤ s'.2.2.2.1 ∧ h.2.1 ≤ s'.2.2.2.2.1 := by
  unfold ab_if at hs
  repeat' split at hs
  all_goals first | exact ab_m_jp hs | (cases hs; exact ⟨Nat.le_refl _, Nat.le_refl _⟩) | cases hs
theorem ab_m_ic {c : ClassFile.Cond} {off : Int} {pc : Nat} {lv : ab_L} {st : List Value} {h : ab_H} {s' : ab_S} (hs : ab_ic c off pc lv st h = some s') : h.1 ≤ s'.2.2.2.1 ∧ h.2.1 ≤ s'.2.2.2.2.1 := by
  unfold ab_ic at hs
  repeat' split at hs
  all_goals first | exact ab_m_jp hs | (cases hs; exact ⟨Nat.le_refl _, Nat.le_refl _⟩) | cases hs
theorem ab_m_tsw {d lo hi : Int} {offs : Array Int} {pc : Nat} {lv : ab_L} {st : List Value} {h : ab_H} {s' : ab_S} (hs : ab_tsw d lo hi offs pc lv st h = some s') : h.1 ≤ s'.2.2.2.1 ∧ h.2.1 ≤ s'.2.2.2.2.1 := by
  unfold ab_tsw at hs
  repeat' split at hs
  all_goals first | exact ab_m_jp hs | (cases hs; exact ⟨Nat.le_refl _, Nat.le_refl _⟩) | cases hs
theorem ab_m_lsw {d : Int} {ps : Array (Int × Int)} {pc : Nat} {lv : ab_L} {st : List Value} {h : ab_H} {s' : ab_S} (hs : ab_lsw d ps pc lv st h = some s') : h.1 ≤ s'.2.2.2.1 ∧ h.2.1 ≤ s'.2.2.2.2.1 := by
  unfold ab_lsw at hs
  repeat' split at hs
  all_goals first | exact ab_m_jp hs | (cases hs; exact ⟨Nat.le_refl _, Nat.le_refl _⟩) | cases hs
theorem ab_m_get {ci k pc : Nat} {lv : ab_L} {st : List Value} {h : ab_H} {s' : ab_S} (hs : ab_get ci k pc lv st h = some s') : h.1 ≤ s'.2.2.2.1 ∧ h.2.1 ≤ s'.2.2.2.2.1 := by
  unfold ab_get at hs
  repeat' split at hs
  all_goals first | (cases hs; exact ⟨Nat.le_refl _, Nat.le_refl _⟩) | (cases hs; exact ⟨Nat.le_succ _, Nat.le_add_right _ _⟩) | cases hs
theorem ab_m_put {ci k pc : Nat} {lv : ab_L} {st : List Value} {h : ab_H} {s' : ab_S} (hs : ab_put ci k pc lv st h = some s') : h.1 ≤ s'.2.2.2.1 ∧ h.2.1 ≤ s'.2.2.2.2.1 := by
  unfold ab_put at hs
  repeat' split at hs
  all_goals first | (cases hs; exact ⟨Nat.le_refl _, Nat.le_refl _⟩) | (cases hs; exact ⟨Nat.le_succ _, Nat.le_add_right _ _⟩) | cases hs
theorem ab_m_ial {pc : Nat} {lv : ab_L} {st : List Value} {h : ab_H} {s' : ab_S} (hs : ab_ial pc lv st h = some s') : h.1 ≤ s'.2.2.2.1 ∧ h.2.1 ≤ s'.2.2.2.2.1 := by
  unfold ab_ial at hs
  repeat' split at hs
  all_goals first | (cases hs; exact ⟨Nat.le_refl _, Nat.le_refl _⟩) | (cases hs; exact ⟨Nat.le_succ _, Nat.le_add_right _ _⟩) | cases hs
theorem ab_m_bal {pc : Nat} {lv : ab_L} {st : List Value} {h : ab_H} {s' : ab_S} (hs : ab_bal pc lv st h = some s') : h.1 ≤ s'.2.2.2.1 ∧ h.2.1 ≤ s'.2.2.2.2.1 := by
  unfold ab_bal at hs
  repeat' split at hs
  all_goals first | (cases hs; exact ⟨Nat.le_refl _, Nat.le_refl _⟩) | (cases hs; exact ⟨Nat.le_succ _, Nat.le_add_right _ _⟩) | cases hs
theorem ab_m_lal {pc : Nat} {lv : ab_L} {st : List Value} {h : ab_H} {s' : ab_S} (hs : ab_lal pc lv st h = some s') : h.1 ≤ s'.2.2.2.1 ∧ h.2.1 ≤ s'.2.2.2.2.1 := by
  unfold ab_lal at hs
  repeat' split at hs
  all_goals first | (cases hs; exact ⟨Nat.le_refl _, Nat.le_refl _⟩) | (cases hs; exact ⟨Nat.le_succ _, Nat.le_add_right _ _⟩) | cases hs
theorem ab_m_aal {pc : Nat} {lv : ab_L} {st : List Value} {h : ab_H} {s' : ab_S} (hs : ab_aal pc lv st h = some s') : h.1 ≤ s'.2.2.2.1 ∧ h.2.1 ≤ s'.2.2.2.2.1 := by
  unfold ab_aal at hs
  repeat' split at hs
  all_goals first | (cases hs; exact ⟨Nat.le_refl _, Nat.le_refl _⟩) | (cases hs; exact ⟨Nat.le_succ _, Nat.le_add_right _ _⟩) | cases hs
theorem ab_m_len {pc : Nat} {lv : ab_L} {st : List Value} {h : ab_H} {s' : ab_S} (hs : ab_len pc lv st h = some s') : h.1 ≤ s'.2.2.2.1 ∧ h.2.1 ≤ s'.2.2.2.2.1 := by
  unfold ab_len at hs
  repeat' split at hs
  all_goals first | (cases hs; exact ⟨Nat.le_refl _, Nat.le_refl _⟩) | (cases hs; exact ⟨Nat.le_succ _, Nat.le_add_right _ _⟩) | cases hs
theorem ab_m_ias {pc : Nat} {lv : ab_L} {st : List Value} {h : ab_H} {s' : ab_S} (hs : ab_ias pc lv st h = some s') : h.1 ≤ s'.2.2.2.1 ∧ h.2.1 ≤ s'.2.2.2.2.1 := by
  unfold ab_ias at hs
  repeat' split at hs
  all_goals first | (cases hs; exact ⟨Nat.le_refl _, Nat.le_refl _⟩) | (cases hs; exact ⟨Nat.le_succ _, Nat.le_add_right _ _⟩) | cases hs
theorem ab_m_bas {pc : Nat} {lv : ab_L} {st : List Value} {h : ab_H} {s' : ab_S} (hs : ab_bas pc lv st h = some s') : h.1 ≤ s'.2.2.2.1 ∧ h.2.1 ≤ s'.2.2.2.2.1 := by
  unfold ab_bas at hs
  repeat' split at hs
  all_goals first | (cases hs; exact ⟨Nat.le_refl _, Nat.le_refl _⟩) | (cases hs; exact ⟨Nat.le_succ _, Nat.le_add_right _ _⟩) | cases hs
theorem ab_m_las {pc : Nat} {lv : ab_L} {st : List Value} {h : ab_H} {s' : ab_S} (hs : ab_las pc lv st h = some s') : h.1 ≤ s'.2.2.2.1 ∧ h.2.1 ≤ s'.2.2.2.2.1 := by
  unfold ab_las at hs
  repeat' split at hs
  all_goals first | (cases hs; exact ⟨Nat.le_refl _, Nat.le_refl _⟩) | (cases hs; exact ⟨Nat.le_succ _, Nat.le_add_right _ _⟩) | cases hs
theorem ab_m_aas {pc : Nat} {lv : ab_L} {st : List Value} {h : ab_H} {s' : ab_S} (hs : ab_aas pc lv st h = some s') : h.1 ≤ s'.2.2.2.1 ∧ h.2.1 ≤ s'.2.2.2.2.1 := by
  unfold ab_aas at hs
  repeat' split at hs
  all_goals first | (cases hs; exact ⟨Nat.le_refl _, Nat.le_refl _⟩) | (cases hs; exact ⟨Nat.le_succ _, Nat.le_add_right _ _⟩) | cases hs
theorem ab_m_new {ci pc : Nat} {lv : ab_L} {st : List Value} {h : ab_H} {s' : ab_S} (hs : ab_new ci pc lv st h = some s') : h.1 ≤ s'.2.2.2.1 ∧ h.2.1 ≤ s'.2.2.2.2.1 := by
  unfold ab_new at hs
  repeat' split at hs
  all_goals first | (cases hs; exact ⟨Nat.le_refl _, Nat.le_refl _⟩) | (cases hs; exact ⟨Nat.le_succ _, Nat.le_add_right _ _⟩) | cases hs
theorem ab_m_nwa {t : ArrayType} {pc : Nat} {lv : ab_L} {st : List Value} {h : ab_H} {s' : ab_S} (hs : ab_nwa t pc lv st h = some s') : h.1 ≤ s'.2.2.2.1 ∧ h.2.1 ≤ s'.2.2.2.2.1 := by
  unfold ab_nwa at hs
  repeat' split at hs
  all_goals first | (cases hs; exact ⟨Nat.le_refl _, Nat.le_refl _⟩) | (cases hs; exact ⟨Nat.le_succ _, Nat.le_add_right _ _⟩) | cases hs
theorem ab_m_ana {pc : Nat} {lv : ab_L} {st : List Value} {h : ab_H} {s' : ab_S} (hs : ab_ana pc lv st h = some s') : h.1 ≤ s'.2.2.2.1 ∧ h.2.1 ≤ s'.2.2.2.2.1 := by
  unfold ab_ana at hs
  repeat' split at hs
  all_goals first | (cases hs; exact ⟨Nat.le_refl _, Nat.le_refl _⟩) | (cases hs; exact ⟨Nat.le_succ _, Nat.le_add_right _ _⟩) | cases hs
theorem ab_m_gs {k pc : Nat} {lv : ab_L} {st : List Value} {h : ab_H} {s' : ab_S} (hs : ab_gs k pc lv st h = some s') : h.1 ≤ s'.2.2.2.1 ∧ h.2.1 ≤ s'.2.2.2.2.1 := by
  unfold ab_gs at hs
  repeat' split at hs
  all_goals first | (cases hs; exact ⟨Nat.le_refl _, Nat.le_refl _⟩) | (cases hs; exact ⟨Nat.le_succ _, Nat.le_add_right _ _⟩) | cases hs
theorem ab_m_lds {k pc : Nat} {lv : ab_L} {st : List Value} {h : ab_H} {s' : ab_S} (hs : ab_lds k pc lv st h = some s') : h.1 ≤ s'.2.2.2.1 ∧ h.2.1 ≤ s'.2.2.2.2.1 := by
  unfold ab_lds at hs
  repeat' split at hs
  all_goals first | (cases hs; exact ⟨Nat.le_refl _, Nat.le_refl _⟩) | (cases hs; exact ⟨Nat.le_succ _, Nat.le_add_right _ _⟩) | cases hs
theorem ab_m_gx {f pc : Nat} {lv : ab_L} {st : List Value} {h : ab_H} {s' : ab_S} (hs : ab_gx f pc lv st h = some s') : h.1 ≤ s'.2.2.2.1 ∧ h.2.1 ≤ s'.2.2.2.2.1 := by
  unfold ab_gx at hs
  repeat' split at hs
  all_goals first | (cases hs; exact ⟨Nat.le_refl _, Nat.le_refl _⟩) | (cases hs; exact ⟨Nat.le_succ _, Nat.le_add_right _ _⟩) | cases hs
theorem ab_m_cpy {pc : Nat} {lv : ab_L} {st : List Value} {h : ab_H} {s' : ab_S} (hs : ab_cpy pc lv st h = some s') : h.1 ≤ s'.2.2.2.1 ∧ h.2.1 ≤ s'.2.2.2.2.1 := by
  unfold ab_cpy at hs
  repeat' split at hs
  all_goals first | (cases hs; exact ⟨Nat.le_refl _, Nat.le_refl _⟩) | (cases hs; exact ⟨Nat.le_succ _, Nat.le_add_right _ _⟩) | cases hs
theorem ab_m_lal2 {pc : Nat} {lv : ab_L} {st : List Value} {h : ab_H} {s' : ab_S} (hs : ab_lal2 pc lv st h = some s') : h.1 ≤ s'.2.2.2.1 ∧ h.2.1 ≤ s'.2.2.2.2.1 := by
  unfold ab_lal2 at hs
  split at hs
  · split at hs
    · cases hs; exact ⟨Nat.le_refl _, Nat.le_refl _⟩
    · cases hs
  · exact ab_m_lal hs
theorem ab_m_bal2 {pc : Nat} {lv : ab_L} {st : List Value} {h : ab_H} {s' : ab_S} (hs : ab_bal2 pc lv st h = some s') : h.1 ≤ s'.2.2.2.1 ∧ h.2.1 ≤ s'.2.2.2.2.1 := by
  unfold ab_bal2 at hs
  split at hs
  · split at hs
    · cases hs; exact ⟨Nat.le_refl _, Nat.le_refl _⟩
    · cases hs
  · exact ab_m_bal hs
theorem ab_m_len2 {pc : Nat} {lv : ab_L} {st : List Value} {h : ab_H} {s' : ab_S} (hs : ab_len2 pc lv st h = some s') : h.1 ≤ s'.2.2.2.1 ∧ h.2.1 ≤ s'.2.2.2.2.1 := by
  unfold ab_len2 at hs
  split at hs
  · split at hs
    · cases hs; exact ⟨Nat.le_refl _, Nat.le_refl _⟩
    · cases hs
  · exact ab_m_len hs
theorem ab_m_ldc {k pc : Nat} {v : Value} {c : Prop} {_ : Decidable c} {lv : ab_L} {st : List Value} {h : ab_H} {s' : ab_S} (hs : (if c then ab_lds k pc lv st h else ab_k 2 pc v lv st h) = some s') : h.1 ≤ s'.2.2.2.1 ∧ h.2.1 ≤ s'.2.2.2.2.1 := by
  split at hs
  · exact ab_m_lds hs
  · exact ab_m_k hs
theorem ab_m_gf {f ci k pc : Nat} {c : Prop} {_ : Decidable c} {lv : ab_L} {st : List Value} {h : ab_H} {s' : ab_S} (hs : (if c then ab_gx f pc lv st h else ab_get ci k pc lv st h) = some s') : h.1 ≤ s'.2.2.2.1 ∧ h.2.1 ≤ s'.2.2.2.2.1 := by
  split at hs
  · exact ab_m_gx hs
  · exact ab_m_get hs
theorem ab_m_is {pc : Nat} {c : Prop} {_ : Decidable c} {lv : ab_L} {st : List Value} {h : ab_H} {s' : ab_S} (hs : (if c then ab_cpy pc lv st h else none) = some s') : h.1 ≤ s'.2.2.2.1 ∧ h.2.1 ≤ s'.2.2.2.2.1 := by
  split at hs
  · exact ab_m_cpy hs
  · cases hs
theorem ab_sp_mono {nL : Nat} {it : ab_I} {pc : Nat} {lv : ab_L} {st : List Value} {h : ab_H} {s' : ab_S} (hs : ab_sp nL it pc lv st h = some s') : h.1 ≤ s'.2.2.2.1 ∧ h.2.1 ≤ s'.2.2.2.2.1 := by
  obtain ⟨i, len, r0, r1, r2, cst, ix⟩ := it
  cases i with
  | iconst n => exact ab_m_k hs
  | bipush n => exact ab_m_k hs
  | sipush n => exact ab_m_k hs
  | lconst n => exact ab_m_k hs
  | ldc i => exact ab_m_ldc hs
  | ldc_w i => exact ab_m_k hs
  | ldc2_w i => exact ab_m_k hs
  | iload_n k => exact ab_m_ild hs
  | iload i => exact ab_m_ild hs
  | lload_n k => exact ab_m_lld hs
  | lload i => exact ab_m_lld hs
  | aload_n k => exact ab_m_ald hs
  | aload i => exact ab_m_ald hs
  | istore_n k => exact ab_m_ist hs
  | istore i => exact ab_m_ist hs
  | lstore_n k => exact ab_m_lst hs
  | lstore i => exact ab_m_lst hs
  | astore_n k => exact ab_m_ast hs
  | astore i => exact ab_m_ast hs
  | iinc i n => exact ab_m_inc hs
  | iadd => exact ab_m_b2 hs
  | isub => exact ab_m_b2 hs
  | imul => exact ab_m_b2 hs
  | iand => exact ab_m_b2 hs
  | ior => exact ab_m_b2 hs
  | ixor => exact ab_m_b2 hs
  | ishl => exact ab_m_b2 hs
  | ishr => exact ab_m_b2 hs
  | iushr => exact ab_m_b2 hs
  | idiv => exact ab_m_dv hs
  | irem => exact ab_m_dv hs
  | ineg => exact ab_m_b1 hs
  | i2b => exact ab_m_b1 hs
  | i2s => exact ab_m_b1 hs
  | i2c => exact ab_m_b1 hs
  | i2l => exact ab_m_il hs
  | l2i => exact ab_m_li hs
  | ladd => exact ab_m_l2 hs
  | lsub => exact ab_m_l2 hs
  | lmul => exact ab_m_l2 hs
  | land => exact ab_m_l2 hs
  | lor => exact ab_m_l2 hs
  | lxor => exact ab_m_l2 hs
  | lcmp => exact ab_m_lc hs
  | lshl => exact ab_m_ls hs
  | lshr => exact ab_m_ls hs
  | lushr => exact ab_m_ls hs
  | dup => exact ab_m_dup hs
  | pop => exact ab_m_pop hs
  | dup_x1 => exact ab_m_dx1 hs
  | dup2 => exact ab_m_d2 hs
  | ifCond cd off => exact ab_m_if hs
  | if_icmp cd off => exact ab_m_ic hs
  | goto off => exact ab_m_jp hs
  | tableswitch d lo hi offs => exact ab_m_tsw hs
  | lookupswitch d ps => exact ab_m_lsw hs
  | getfield i => exact ab_m_gf hs
  | getstatic i => exact ab_m_gs hs
  | invokestatic i => exact ab_m_is hs
  | putfield i => exact ab_m_put hs
  | iaload => exact ab_m_ial hs
  | baload => exact ab_m_bal2 hs
  | laload => exact ab_m_lal2 hs
  | aaload => exact ab_m_aal hs
  | arraylength => exact ab_m_len2 hs
  | iastore => exact ab_m_ias hs
  | bastore => exact ab_m_bas hs
  | lastore => exact ab_m_las hs
  | aastore => exact ab_m_aas hs
  | new i => exact ab_m_new hs
  | newarray t => exact ab_m_nwa hs
  | anewarray i => exact ab_m_ana hs
  | _ => exact absurd (show (none : Option ab_S) = some s' from hs) (fun q => by cases q)
theorem ab_cpyw : Cond.native arraycopyName ∈ ab_tb ∧ Cond.static arraycopyName ∈ ab_tb ∧ Cond.initialized "java/lang/System" ∈ ab_tb := ⟨ab_tb_of (i := 1011) (by decide +kernel) rfl, ab_tb_of (i := 1010) (by decide +kernel) rfl, ab_tb_of (i := 118) (by decide +kernel) rfl⟩
section ABD
variable {p : Program} {l : Launch} {e : Env} {R : Room} {s : State} {m : MethodId} {args : Array Value} {below : List Frame} {meth : Method} {c : Code} {H : Heap} {locs : List Loc} {cells slots : Nat} {Q : State → Prop}
variable {M : ab_M} {b : ab_V} {z : Nat} {D : va_G} {dA : Nat → ClassId} {L : Nat} {xs : Nat → Int32} {pc pc' : Nat} {ls : Array Slot} {lv lv' : ab_L} {st st' : List Value} {h h' : ab_H} {c0 s0 : Nat}
theorem ab_sp_ok {G : Nat → Option ab_M} (C : ab_Cx p s m args meth c M b z D dA L xs) {it : ab_I} (ok : ab_so G M pc it) (hfl : ab_kd it = 4 → 1 ≤ R.frames ∧ 60 ≤ R.locals) (hs : ab_sp M.2.2.1 it pc lv st h = some (pc', lv', st', h')) (hR : ab_R b z D dA L xs h H) (hS : va_S (ab_A z) s.heap H locs) (hl : lv_has ls M.2.2.1 (lv.map (ab_q b z))) (hc : h.1 = c0 + cells) (hq : h.2.1 = s0 + slots) (hc2 : h'.1 ≤ c0 + R.cells) (hq2 : h'.2.1 ≤ s0 + R.slots) (kk : ab_KK p l e R s m args below meth c Q M.2.2.1 b z D dA L xs c0 s0 pc' lv' st' h') : W p l e R s m args below meth c H locs cells slots Q (F0 m pc ls (st.map (ab_v b z))) := by
  obtain ⟨i, len, r0, r1, r2, cst, ix⟩ := it
  obtain ⟨hd, hlen, hw⟩ := ok
  cases i with
  | iconst n =>
    have hlen : len = 1 := hlen
    subst hlen
    exact ab_o_iconst C hd hs hR hS hl hc hq kk
  | bipush n =>
    have hlen : len = 2 := hlen
    subst hlen
    exact ab_o_bipush C hd hs hR hS hl hc hq kk
  | sipush n =>
    have hlen : len = 3 := hlen
    subst hlen
    exact ab_o_sipush C hd hs hR hS hl hc hq kk
  | lconst n =>
    have hlen : len = 1 := hlen
    subst hlen
    exact ab_o_lconst C hd hs hR hS hl hc hq kk
  | ldc i =>
    have hlen : len = 2 := hlen
    subst hlen
    have hs : (if r0 = 7 then ab_lds r1 pc lv st h else ab_k 2 pc (.int (Int32.ofInt cst)) lv st h) = some (pc', lv', st', h') := hs
    rcases hw with ⟨h0, hw⟩ | ⟨h0, hw⟩
    · rw [if_pos h0] at hs
      exact ab_o_lds C hd hw hs hR hS hl hc hq kk
    · rw [if_neg h0] at hs
      exact ab_o_ldc C hd hw hs hR hS hl hc hq kk
  | ldc_w i =>
    have hlen : len = 3 := hlen
    subst hlen
    exact ab_o_ldc_w C hd hw hs hR hS hl hc hq kk
  | ldc2_w i =>
    have hlen : len = 3 := hlen
    subst hlen
    exact ab_o_ldc2_w C hd hw hs hR hS hl hc hq kk
  | iload_n k =>
    have hlen : len = 1 := hlen
    subst hlen
    exact ab_o_iload_n C hd hs hR hS hl hc hq kk
  | iload i =>
    have hlen : len = 2 := hlen
    subst hlen
    exact ab_o_iload C hd hs hR hS hl hc hq kk
  | lload_n k =>
    have hlen : len = 1 := hlen
    subst hlen
    exact ab_o_lload_n C hd hs hR hS hl hc hq kk
  | lload i =>
    have hlen : len = 2 := hlen
    subst hlen
    exact ab_o_lload C hd hs hR hS hl hc hq kk
  | aload_n k =>
    have hlen : len = 1 := hlen
    subst hlen
    exact ab_o_aload_n C hd hs hR hS hl hc hq kk
  | aload i =>
    have hlen : len = 2 := hlen
    subst hlen
    exact ab_o_aload C hd hs hR hS hl hc hq kk
  | istore_n k =>
    have hlen : len = 1 := hlen
    subst hlen
    exact ab_o_istore_n C hd hs hR hS hl hc hq kk
  | istore i =>
    have hlen : len = 2 := hlen
    subst hlen
    exact ab_o_istore C hd hs hR hS hl hc hq kk
  | lstore_n k =>
    have hlen : len = 1 := hlen
    subst hlen
    exact ab_o_lstore_n C hd hs hR hS hl hc hq kk
  | lstore i =>
    have hlen : len = 2 := hlen
    subst hlen
    exact ab_o_lstore C hd hs hR hS hl hc hq kk
  | astore_n k =>
    have hlen : len = 1 := hlen
    subst hlen
    exact ab_o_astore_n C hd hs hR hS hl hc hq kk
  | astore i =>
    have hlen : len = 2 := hlen
    subst hlen
    exact ab_o_astore C hd hs hR hS hl hc hq kk
  | iinc i n =>
    have hlen : len = 3 := hlen
    subst hlen
    exact ab_o_iinc C hd hs hR hS hl hc hq kk
  | iadd =>
    have hlen : len = 1 := hlen
    subst hlen
    exact ab_o_iadd C hd hs hR hS hl hc hq kk
  | isub =>
    have hlen : len = 1 := hlen
    subst hlen
    exact ab_o_isub C hd hs hR hS hl hc hq kk
  | imul =>
    have hlen : len = 1 := hlen
    subst hlen
    exact ab_o_imul C hd hs hR hS hl hc hq kk
  | iand =>
    have hlen : len = 1 := hlen
    subst hlen
    exact ab_o_iand C hd hs hR hS hl hc hq kk
  | ior =>
    have hlen : len = 1 := hlen
    subst hlen
    exact ab_o_ior C hd hs hR hS hl hc hq kk
  | ixor =>
    have hlen : len = 1 := hlen
    subst hlen
    exact ab_o_ixor C hd hs hR hS hl hc hq kk
  | ishl =>
    have hlen : len = 1 := hlen
    subst hlen
    exact ab_o_ishl C hd hs hR hS hl hc hq kk
  | ishr =>
    have hlen : len = 1 := hlen
    subst hlen
    exact ab_o_ishr C hd hs hR hS hl hc hq kk
  | iushr =>
    have hlen : len = 1 := hlen
    subst hlen
    exact ab_o_iushr C hd hs hR hS hl hc hq kk
  | idiv =>
    have hlen : len = 1 := hlen
    subst hlen
    exact ab_o_idiv C hd hs hR hS hl hc hq kk
  | irem =>
    have hlen : len = 1 := hlen
    subst hlen
    exact ab_o_irem C hd hs hR hS hl hc hq kk
  | ineg =>
    have hlen : len = 1 := hlen
    subst hlen
    exact ab_o_ineg C hd hs hR hS hl hc hq kk
  | i2b =>
    have hlen : len = 1 := hlen
    subst hlen
    exact ab_o_i2b C hd hs hR hS hl hc hq kk
  | i2s =>
    have hlen : len = 1 := hlen
    subst hlen
    exact ab_o_i2s C hd hs hR hS hl hc hq kk
  | i2c =>
    have hlen : len = 1 := hlen
    subst hlen
    exact ab_o_i2c C hd hs hR hS hl hc hq kk
  | i2l =>
    have hlen : len = 1 := hlen
    subst hlen
    exact ab_o_i2l C hd hs hR hS hl hc hq kk
  | l2i =>
    have hlen : len = 1 := hlen
    subst hlen
    exact ab_o_l2i C hd hs hR hS hl hc hq kk
  | ladd =>
    have hlen : len = 1 := hlen
    subst hlen
    exact ab_o_ladd C hd hs hR hS hl hc hq kk
  | lsub =>
    have hlen : len = 1 := hlen
    subst hlen
    exact ab_o_lsub C hd hs hR hS hl hc hq kk
  | lmul =>
    have hlen : len = 1 := hlen
    subst hlen
    exact ab_o_lmul C hd hs hR hS hl hc hq kk
  | land =>
    have hlen : len = 1 := hlen
    subst hlen
    exact ab_o_land C hd hs hR hS hl hc hq kk
  | lor =>
    have hlen : len = 1 := hlen
    subst hlen
    exact ab_o_lor C hd hs hR hS hl hc hq kk
  | lxor =>
    have hlen : len = 1 := hlen
    subst hlen
    exact ab_o_lxor C hd hs hR hS hl hc hq kk
  | lcmp =>
    have hlen : len = 1 := hlen
    subst hlen
    exact ab_o_lcmp C hd hs hR hS hl hc hq kk
  | lshl =>
    have hlen : len = 1 := hlen
    subst hlen
    exact ab_o_lshl C hd hs hR hS hl hc hq kk
  | lshr =>
    have hlen : len = 1 := hlen
    subst hlen
    exact ab_o_lshr C hd hs hR hS hl hc hq kk
  | lushr =>
    have hlen : len = 1 := hlen
    subst hlen
    exact ab_o_lushr C hd hs hR hS hl hc hq kk
  | dup =>
    have hlen : len = 1 := hlen
    subst hlen
    exact ab_o_dup C hd hs hR hS hl hc hq kk
  | pop =>
    have hlen : len = 1 := hlen
    subst hlen
    exact ab_o_pop C hd hs hR hS hl hc hq kk
  | dup_x1 =>
    have hlen : len = 1 := hlen
    subst hlen
    exact ab_o_dup_x1 C hd hs hR hS hl hc hq kk
  | dup2 =>
    have hlen : len = 1 := hlen
    subst hlen
    exact ab_o_dup2 C hd hs hR hS hl hc hq kk
  | ifCond cd off =>
    have hlen : len = 3 := hlen
    subst hlen
    exact ab_o_if C hd hw hs hR hS hl hc hq kk
  | if_icmp cd off =>
    have hlen : len = 3 := hlen
    subst hlen
    exact ab_o_ic C hd hw hs hR hS hl hc hq kk
  | goto off =>
    have hlen : len = 3 := hlen
    subst hlen
    exact ab_o_goto C hd hs hR hS hl hc hq kk
  | tableswitch d lo hi offs =>
    exact ab_o_tsw C hd hs hR hS hl hc hq kk
  | lookupswitch d ps =>
    exact ab_o_lsw C hd hs hR hS hl hc hq kk
  | getfield i =>
    have hlen : len = 3 := hlen
    subst hlen
    have hs : (if r0 = 20 then ab_gx r1 pc lv st h else ab_get r0 r1 pc lv st h) = some (pc', lv', st', h') := hs
    rcases hw with ⟨h0, hw⟩ | ⟨h0, Cn, T, N, h1, h2, h3⟩
    · rw [if_pos h0] at hs
      exact ab_o_gx C hd hw hs hR hS hl hc hq kk
    · rw [if_neg h0] at hs
      exact ab_o_get C hd h1 h2 h3 hs hR hS hl hc hq kk
  | getstatic i =>
    have hlen : len = 3 := hlen
    subst hlen
    exact ab_o_gs C hd hw hs hR hS hl hc hq kk
  | invokestatic i =>
    have hlen : len = 3 := hlen
    subst hlen
    have hs : (if r0 = 8 then ab_cpy pc lv st h else none) = some (pc', lv', st', h') := hs
    by_cases h0 : r0 = 8
    · subst h0
      rw [if_pos rfl] at hs
      have hlk : Cond.methodLink M.1.cls i arraycopyName ∈ ab_tb := by
        rcases hw with ⟨-, hw⟩ | ⟨hw, -⟩ | ⟨hw, -⟩
        · exact hw
        · exact absurd (show (8 : Nat) = 1 from hw) (by decide)
        · exact absurd (show (8 : Nat) = 3 from hw) (by decide)
      exact ab_o_cpy C hd hlk ab_cpyw (hfl rfl).1 (hfl rfl).2 hs hR hS hl hc hq kk
    · rw [if_neg h0] at hs
      cases hs
  | putfield i =>
    have hlen : len = 3 := hlen
    subst hlen
    obtain ⟨Cn, T, N, h1, h2, h3, h4⟩ := hw
    exact ab_o_put C hd h1 h2 h3 h4 hs hR hS hl hc hq kk
  | iaload =>
    have hlen : len = 1 := hlen
    subst hlen
    exact ab_o_ial C hd hs hR hS hl hc hq kk
  | baload =>
    have hlen : len = 1 := hlen
    subst hlen
    exact ab_o_bal2 C hd hs hR hS hl hc hq kk
  | laload =>
    have hlen : len = 1 := hlen
    subst hlen
    exact ab_o_lal2 C hd hs hR hS hl hc hq kk
  | aaload =>
    have hlen : len = 1 := hlen
    subst hlen
    exact ab_o_aal C hd hs hR hS hl hc hq kk
  | arraylength =>
    have hlen : len = 1 := hlen
    subst hlen
    exact ab_o_len2 C hd hs hR hS hl hc hq kk
  | iastore =>
    have hlen : len = 1 := hlen
    subst hlen
    exact ab_o_ias C hd hs hR hS hl hc hq kk
  | bastore =>
    have hlen : len = 1 := hlen
    subst hlen
    exact ab_o_bas C hd hs hR hS hl hc hq kk
  | lastore =>
    have hlen : len = 1 := hlen
    subst hlen
    exact ab_o_las C hd hs hR hS hl hc hq kk
  | aastore =>
    have hlen : len = 1 := hlen
    subst hlen
    exact ab_o_aas C hd hs hR hS hl hc hq kk
  | new i =>
    have hlen : len = 3 := hlen
    subst hlen
    obtain ⟨Cn, T, N, h1, h2⟩ := hw
    exact ab_o_new C hd h1 h2 hs hR hS hl hc hq hc2 hq2 kk
  | newarray t =>
    have hlen : len = 2 := hlen
    subst hlen
    exact ab_o_nwa C hd hw hs hR hS hl hc hq hc2 hq2 kk
  | anewarray i =>
    have hlen : len = 3 := hlen
    subst hlen
    exact ab_o_ana C hd hw hs hR hS hl hc hq hc2 hq2 kk
  | _ => exact absurd (show (none : Option ab_S) = some (pc', lv', st', h') from hs) (fun q => by cases q)
end ABD
end
section
theorem ab_ex_mono {G : Nat → Option ab_M} : ∀ (n : Nat) {d : Nat} {M : ab_M} {pc : Nat} {lv : ab_L} {st : List Value} {h : ab_H} {r : Option Value} {hF : ab_H}, ab_ex G n d M pc lv st h = some (r, hF) → h.1 ≤ hF.1 ∧ h.2.1 ≤ hF.2.1 := by
  intro n
  induction n with
  | zero => intro d M pc lv st h r hF hx; cases hx
  | succ n ih =>
    intro d M pc lv st h r hF hx
    unfold ab_ex at hx
    split at hx
    · cases hx
    · split at hx
      · split at hx
        · cases hx
        · rename_i s' hs
          have h1 := ab_sp_mono hs
          have h2 := ih hx
          exact ⟨Nat.le_trans h1.1 h2.1, Nat.le_trans h1.2 h2.2⟩
      · unfold ab_rt at hx
        repeat' split at hx
        all_goals first | (cases hx; exact ⟨Nat.le_refl _, Nat.le_refl _⟩) | cases hx
      · split at hx
        · cases hx
        · split at hx
          · cases hx
          · split at hx
            · cases hx
            · rename_i q hq r' hr
              have h1 := ih hr
              have h2 := ih hx
              exact ⟨Nat.le_trans h1.1 h2.1, Nat.le_trans h1.2 h2.2⟩
      · split at hx
        · cases hx
        · split at hx
          · cases hx
          · rename_i s' hs
            have h1 := ab_sp_mono hs
            have h2 := ih hx
            exact ⟨Nat.le_trans h1.1 h2.1, Nat.le_trans h1.2 h2.2⟩
      · split at hx
        · cases hx
        · split at hx
          · cases hx
          · exact ih hx
theorem ab_cal_of {G : Nat → Option ab_M} {it : ab_I} {st : List Value} {h : ab_H} {M : ab_M} {A rest : List Value} (hx : ab_cal G it st h = some (M, A, rest)) : G it.2.2.2.1 = some M ∧ (lg_sl A).length ≤ M.2.2.1 ∧ (rest.map fun v => v.category).sum ≤ 8 ∧ ∃ As : List Value, As.length = it.2.2.2.2.1 ∧
    (((it.2.2.1 = 1 ∨ it.2.2.1 = 3) ∧ M.2.2.2.2.1.1 = 1 ∧ A = As ∧ st = As.reverse ++ rest) ∨ (it.2.2.1 = 0 ∧ M.2.2.2.2.1.1 = 0 ∧ ∃ a fs, A = .ref a :: As ∧ st = As.reverse ++ .ref a :: rest ∧ ab_rd h a = some (.inr (M.2.2.2.2.1.2.1, fs))) ∨ ((it.2.2.1 = 2 ∨ it.2.2.1 = 4) ∧ M.2.2.2.2.1.1 = 2 ∧ ∃ a, A = .ref a :: As ∧ st = As.reverse ++ .ref a :: rest) ∨ (it.2.2.1 = 9 ∧ M.2.2.2.2.1.1 = 3 ∧ ∃ k, (1 ≤ k ∧ k ≤ 4) ∧ A = .retAddr k :: As ∧ st = As.reverse ++ .retAddr k :: rest)) := by
  unfold ab_cal at hx
  split at hx
  · cases hx
  · rename_i M0 hM0
    split at hx
    · rename_i hlen
      have hst : st = (st.take it.2.2.2.2.1).reverse.reverse ++ st.drop it.2.2.2.2.1 := by rw [List.reverse_reverse, List.take_append_drop]
      split at hx
      · rename_i h13
        split at hx
        · rename_i hk
          cases hx
          have hcok := hk.2
          unfold ab_cok at hcok
          simp only [Bool.and_eq_true, decide_eq_true_eq] at hcok
          exact ⟨hM0, hcok.1, hcok.2, _, by rw [List.length_reverse]; exact hlen, Or.inl ⟨h13, hk.1, rfl, hst⟩⟩
        · cases hx
      · rename_i h13
        split at hx
        · rename_i a rest0 hdrop
          split at hx
          · rename_i h0
            split at hx
            · rename_i ci fs hrd
              split at hx
              · rename_i hk
                cases hx
                have hcok := hk.2.2
                unfold ab_cok at hcok
                simp only [Bool.and_eq_true, decide_eq_true_eq] at hcok
                refine ⟨hM0, hcok.1, hcok.2, _, by rw [List.length_reverse]; exact hlen, Or.inr (Or.inl ⟨h0, hk.2.1, a, fs, rfl, ?_, ?_⟩)⟩
                · rw [← hdrop]; exact hst
                · rw [hrd, hk.1]
              · cases hx
            · cases hx
          · rename_i h0
            split at hx
            · rename_i hk
              cases hx
              have hcok := hk.2.2
              unfold ab_cok at hcok
              simp only [Bool.and_eq_true, decide_eq_true_eq] at hcok
              refine ⟨hM0, hcok.1, hcok.2, _, by rw [List.length_reverse]; exact hlen, Or.inr (Or.inr (Or.inl ⟨hk.1, hk.2.1, a, rfl, ?_⟩))⟩
              rw [← hdrop]; exact hst
            · cases hx
        · rename_i k rest0 hdrop
          split at hx
          · rename_i hk
            cases hx
            have hcok := hk.2.2.2
            unfold ab_cok at hcok
            simp only [Bool.and_eq_true, decide_eq_true_eq] at hcok
            refine ⟨hM0, hcok.1, hcok.2, _, by rw [List.length_reverse]; exact hlen, Or.inr (Or.inr (Or.inr ⟨hk.1, hk.2.2.1, k, hk.2.1, rfl, ?_⟩))⟩
            rw [← hdrop]; exact hst
          · cases hx
        · cases hx
    · cases hx
def ab_Qc (b : ab_V) (z : Nat) (D : va_G) (dA : Nat → ClassId) (L : Nat) (xs : Nat → Int32) (r : Option Value) (hF : ab_H) : Array Value → State → Outcome → State → Prop := fun _ st oc t =>
  oc = .returned (r.map (ab_v b z)) ∧ ab_R b z D dA L xs hF t.heap ∧ va_F (ab_A z) st t
def ab_B (b : ab_V) (z : Nat) (D : va_G) (dA : Nat → ClassId) (L : Nat) (xs : Nat → Int32) (h : ab_H) : State → Prop := fun U => ab_X U b z D dA L xs ∧ ab_R b z D dA L xs h U.heap
def ab_rm (d : Nat) (h hF : ab_H) : Room := { frames := d, cells := hF.1 - h.1, slots := hF.2.1 - h.2.1, locals := 60 * d }
def ab_ws (M : ab_M) : List Cond := Cond.code M.1 M.2.1 M.2.2.1 M.2.2.2.1 :: ab_tb
theorem ab_O.mv {U V : State} {b : ab_V} {z : Nat} (hv : U.vm.Alike V.vm) (hr : ∀ k a, vk_R RX4 (ab_si k).1 (ab_si k).2 a U → vk_R RX4 (ab_si k).1 (ab_si k).2 a V) (hk : ∀ a : Nat, a < U.heap.size → ¬ ab_A z a → V.heap[a]? = U.heap[a]?) (h : ab_O b z U) : ab_O b z V := by
  obtain ⟨⟨a, h1, h2, h3⟩, h4, h5, h6⟩ := h
  refine ⟨⟨a, h1, (va_T.moved hv h2).kept hk, (va_Z.moved hv h3).kept hk⟩, (va_Z.moved hv h4).kept hk, (va_Z.moved hv h5).kept hk, fun k hk4 => ?_⟩
  obtain ⟨a, v, g1, g2, g3, g4, g5, g6, g7⟩ := h6 k hk4
  exact ⟨a, v, g1, g2, hr k a g3, (va_O.moved hv g4).kept hk, (va_OF.moved hv g5).kept hk, (va_OF.moved hv g6).kept hk, (va_T.moved hv g7).kept hk⟩
theorem ab_X.blind {U : State} {b : ab_V} {z : Nat} {D : va_G} {dA : Nat → ClassId} {L : Nat} {xs : Nat → Int32} (h : ab_X U b z D dA L xs) (g : JFrame) (mk : MethodId) (a : Array Value) : ab_X (U.calling g mk a) b z D dA L xs := by
  obtain ⟨h1, h2, h3, h4, h5, h6, h7⟩ := h
  exact ⟨va_K.moved (u := U) (U := U.calling g mk a) (Vm.Alike.refl U.vm) h1, fun x i y w hw => va_Nw.same (u := U) (U := U.calling g mk a) rfl rfl (h2 x i y w hw), va_AO.moved (u := U) (U := U.calling g mk a) (Vm.Alike.refl U.vm) h3, va_X.moved (u := U) (U := U.calling g mk a) (Vm.Alike.refl U.vm) h4, h5, h6, h7.mv (V := U.calling g mk a) (Vm.Alike.refl U.vm) (fun k q hq => vk_R.same (u := U) (U := U.calling g mk a) rfl hq) (fun _ _ _ => rfl)⟩
theorem ab_blind (av : List Value) (b : ab_V) (z : Nat) (D : va_G) (dA : Nat → ClassId) (L : Nat) (xs : Nat → Int32) (h : ab_H) : FrameBlind (va_Pc av (ab_B b z D dA L xs h)) := fun a U g mk q => ⟨q.1, q.2.1.blind g mk a, q.2.2⟩
theorem ab_X.to {s U : State} {H : Heap} {locs : List Loc} {b : ab_V} {z : Nat} {D : va_G} {dA : Nat → ClassId} {L : Nat} {xs : Nat → Int32} (h : ab_X s b z D dA L xs) (hS : va_S (ab_A z) s.heap H locs) (hU : U.heap = H) (hW : s.WarmedH U.vm) : ab_X U b z D dA L xs := by
  obtain ⟨h1, h2, h3, h4, h5, h6, h7⟩ := h
  refine ⟨va_K.moved hW.alike h1, fun x i y w hw => va_Nw.warmM hW (h2 x i y w hw), va_AO.moved hW.alike h3, ?_, h5, by rw [hU]; exact Nat.le_trans h6 hS.1, h7.mv hW.alike (fun k q hq => vk_R.warm hW hq) (fun q g1 g2 => by rw [hU]; exact hS.2.1 q g1 g2)⟩
  exact (va_X.moved hW.alike h4).kept (by rw [hU]; exact hS.2.1 b.1 (Nat.lt_of_lt_of_le h5 h6) (Nat.not_le.mpr h5))
theorem ab_args_map (b : ab_V) (z : Nat) : ∀ (As : List Value) (i : Nat), lv_args i (As.map (ab_v b z)) = (lv_args i As).map (ab_q b z)
  | [], _ => rfl
  | v :: r, i => by
    show (i, ab_v b z v) :: lv_args (if (ab_v b z v).category = 2 then i + 2 else i + 1) (r.map (ab_v b z)) = _
    rw [ab_v_cat, ab_args_map b z r]
    rfl
theorem ab_sl_len (b : ab_V) (z : Nat) : ∀ (As : List Value), (lg_sl (As.map (ab_v b z))).length = (lg_sl As).length
  | [] => rfl
  | v :: r => by
    have ih := ab_sl_len b z r
    unfold lg_sl at ih ⊢
    simp only [List.map_cons, List.flatMap_cons, List.length_append, ab_v_cat, ih]
    congr 1
    split <;> rfl
theorem ab_cat_map (b : ab_V) (z : Nat) (rest : List Value) : ((rest.map (ab_v b z)).map fun v => v.category).sum = (rest.map fun v => v.category).sum := by
  rw [List.map_map]
  congr 1
  exact List.map_congr_left fun v _ => ab_v_cat b z v
section ABX
variable {p : Program} {l : Launch} {e : Env} {R : Room} {s : State} {m : MethodId} {args : Array Value} {below : List Frame} {meth : Method} {c : Code} {H : Heap} {locs : List Loc} {cells slots : Nat} {Q : State → Prop}
variable {b : ab_V} {z : Nat} {D : va_G} {dA : Nat → ClassId} {L : Nat} {xs : Nat → Int32}
/-- behind a call -/
theorem ab_call {mc ms pc : Nat} {ls : Array Slot} {st0 rest : List Value} {r : Option Value} {hF : ab_H} {a : Array Value} (hr : va_Run p l e R s m args below meth c H locs cells slots mc ms (F0 m pc ls st0) rest (ab_Qc b z D dA L xs r hF a) (ab_A z)) (hS : va_S (ab_A z) s.heap H locs)
    (kk : ∀ (H1 : Heap) (locs1 : List Loc), ab_R b z D dA L xs hF H1 → va_S (ab_A z) s.heap H1 locs1 → W p l e R s m args below meth c H1 locs1 (cells + mc) (slots + ms) Q (F0 m (pc + 3) ls ((r.map (ab_v b z)).toList ++ rest))) : W p l e R s m args below meth c H locs cells slots Q (F0 m pc ls st0) := by
  intro T hT X
  obtain ⟨v, st₀, t, T', L', h0, X', hL, e1, e2, ⟨hv, hR, hz, hk⟩, st⟩ := hr T hT X
  cases hv
  rw [h0] at hz hk
  obtain ⟨t2, a1, b1⟩ := kk T'.heap (locs ++ L') (by rw [e1]; exact hR)
    ⟨Nat.le_trans hS.1 (by rw [e1]; exact hz), fun q h1 h2 => by rw [e1, hk q (Nat.lt_of_lt_of_le h1 hS.1) h2]; exact hS.2.1 q h1 h2, fun q hq => by
      rcases List.mem_append.mp hq with h | h
      · exact hS.2.2 q h
      · exact hL q h⟩ T' rfl X'
  exact ⟨t2, st t2 a1, b1⟩
end ABX
/-- the run is sound: for n steps -/
def ab_Snd (G : Nat → Option ab_M) (l : Launch) (n : Nat) : Prop := ∀ (p : Program) (e : Env) (R : Room) (s : State) (m : MethodId) (args : Array Value) (below : List Frame) (meth : Method) (c : Code) (Q : State → Prop) (M : ab_M) (b : ab_V) (z : Nat) (D : va_G) (dA : Nat → ClassId) (L : Nat) (xs : Nat → Int32) (d pc : Nat) (lv : ab_L) (st : List Value) (h : ab_H) (r : Option Value) (hF : ab_H) (H : Heap) (locs : List Loc) (ls : Array Slot) (cells slots c0 s0 : Nat),
  ab_Cx p s m args meth c M b z D dA L xs → (∀ pc it, ab_at M.2.2.2.2.2 pc = some it → ab_so G M pc it) → ab_ex G n d M pc lv st h = some (r, hF) → d ≤ R.frames → 60 * d ≤ R.locals →
  ab_R b z D dA L xs h H → va_S (ab_A z) s.heap H locs → lv_has ls M.2.2.1 (lv.map (ab_q b z)) → h.1 = c0 + cells → h.2.1 = s0 + slots → hF.1 ≤ c0 + R.cells → hF.2.1 ≤ s0 + R.slots →
  (∀ (H : Heap) (locs : List Loc) (ls : Array Slot) (cells slots pc : Nat) (it : ab_I) (st : List Value) (h : ab_H), ab_R b z D dA L xs h H → va_S (ab_A z) s.heap H locs → h.1 = c0 + cells → h.2.1 = s0 + slots → ab_so G M pc it → ab_rt M it st h = some (r, hF) → W p l e R s m args below meth c H locs cells slots Q (F0 m pc ls (st.map (ab_v b z)))) →
  W p l e R s m args below meth c H locs cells slots Q (F0 m pc ls (st.map (ab_v b z)))
theorem ab_rt_h {M : ab_M} {it : ab_I} {st : List Value} {h hF : ab_H} {r : Option Value} (hx : ab_rt M it st h = some (r, hF)) : h = hF := by
  unfold ab_rt at hx
  repeat' split at hx
  all_goals first | (cases hx; rfl) | cases hx
/-- a contract out of a walk, for a method that no row of natives stands for -/
theorem ab_ofW {l : Launch} {y : MethodName} {ws ws' : List Cond} {rm : Room} {Pc : Array Value → State → Prop} {Qc : Array Value → State → Outcome → State → Prop} {mc ms : Nat} {free : Addr → Prop} {cc : ByteArray} {maxL : Nat} {ret : Option FieldType}
    (hy : plainFor y = true) (hw : ws = Cond.code y cc maxL ret :: ws')
    (body : ∀ p e s m args below meth c s₁, BodyLoose p l y (headSpec ws rm) cc maxL ret e s m args below meth c s₁ → c.maxLocals = maxL → Pc args s →
      W p l e (headSpec ws rm).room s m args below meth c s.heap [] 0 0 (MQ below Qc args s mc ms free) (entryFrame m args maxL)) : Met l y ws rm Pc Qc mc ms free := by
  refine MetFree.of_bodySF (code := cc) (maxLocals := maxL) (ret := ret) hy ?_ ?_
  · intro args s m h hn
    obtain ⟨meth, c, h1, h2, h3, h4, h5, h6, -, -⟩ := Cond.code_spec hn (atoms_spec (ws := ws) h _ (by rw [hw]; exact List.mem_cons_self))
    exact ⟨meth, c, h1, h2, h3, h4, h5, h6⟩
  · intro p e s m args below meth c s₁ B hml hP _
    have hh0 : s₁.heap = s.heap := by rw [B.state]; rfl
    obtain ⟨t, a1, o, b1, b2, b3⟩ := body p e s m args below meth c s₁ B hml hP s₁ hh0 (Stand.of_body B)
    exact ⟨t, o, a1, b1, b2, ⟨b3.1, b3.2⟩⟩
set_option maxHeartbeats 4000000 in
/-- a run of a method is a contract -/
theorem ab_met {G : Nat → Option ab_M} {l : Launch} {n : Nat} (hn : ab_Snd G l n) {M : ab_M} (ok : ab_ok G M) {b : ab_V} {z : Nat} {D : va_G} {dA : Nat → ClassId} {L : Nat} {xs : Nat → Int32} {d : Nat} {As : List Value} {h : ab_H} {r : Option Value} {hF : ab_H} (hx : ab_ex G n d M 0 (lv_args 0 As) [] h = some (r, hF)) (hsl : (lg_sl As).length ≤ M.2.2.1) :
    Met l M.1 (ab_ws M) (ab_rm d h hF) (va_Pc (As.map (ab_v b z)) (ab_B b z D dA L xs h)) (ab_Qc b z D dA L xs r hF) (hF.1 - h.1) (hF.2.1 - h.2.1) (ab_A z) := by
  refine ab_ofW (cc := M.2.1) (maxL := M.2.2.1) (ret := M.2.2.2.1) ok.1.2.2.2.2.1 rfl ?_
  intro p e s m args below meth c s₁ B hml hv
  obtain ⟨rfl, hX, hR⟩ := hv
  have hts : ∀ w ∈ ab_ws M, w.before (As.map (ab_v b z)).toArray s = true := atoms_spec (ws := ab_ws M) B.pre
  have C : ab_Cx p s m (As.map (ab_v b z)).toArray meth c M b z D dA L xs := ⟨B.exec, B.bytes, hml, findClass_of_methodNamed B.named, fun w hw => hts w (List.mem_cons_of_mem _ hw), B.returns, B.notSynchronized, fun q => (name_of_methodNamed B.named B.method).1.trans q, hX⟩
  have hl := lv_entry (As.map (ab_v b z)) (n := M.2.2.1) (by rw [ab_sl_len]; exact hsl)
  rw [ab_args_map] at hl
  rw [lg_entry_eq]
  generalize (lg_sl (As.map (ab_v b z)) ++ List.replicate (M.2.2.1 - (lg_sl (As.map (ab_v b z))).length) Slot.unset).toArray = ls at hl ⊢
  have mono := ab_ex_mono n hx
  refine hn p e _ s m _ below meth c _ M b z D dA L xs d 0 (lv_args 0 As) [] h r hF s.heap [] ls 0 0 h.1 h.2.1 C ok.2 hx (Nat.le_refl d) (Nat.le_refl _) hR va_S.rf hl rfl rfl ?_ ?_ ?_
  · show hF.1 ≤ h.1 + (hF.1 - h.1); omega
  · show hF.2.1 ≤ h.2.1 + (hF.2.1 - h.2.1); omega
  · intro H locs ls cells slots pc it st h2 hR hS hc hq hso hrt
    have hh := ab_rt_h hrt
    subst hh
    have k1 : h2.1 - h.1 = cells := by omega
    have k2 : h2.2.1 - h.2.1 = slots := by omega
    rw [k1, k2]
    obtain ⟨i, len, r0, r1, r2, cst, ix⟩ := it
    obtain ⟨hd, hlen, -⟩ := hso
    unfold ab_rt at hrt
    split at hrt
    · rename_i hi
      have hi : i = .ireturn := hi
      subst hi
      have hlen : len = 1 := hlen
      subst hlen
      split at hrt
      · rename_i v
        split at hrt
        · rename_i ty hty
          split at hrt
          · rename_i hnar
            cases hrt
            exact W.zret C.1 C.2.1 (C.2.2.2.2.2.1.trans hty) hnar (fun t ht hW => ⟨rfl, by rw [ht]; exact hR, hS.F ht⟩) hS.2.2 hd C.2.2.2.2.2.2.1
          · cases hrt
        · cases hrt
      · cases hrt
    · rename_i hi
      have hi : i = .lreturn := hi
      subst hi
      have hlen : len = 1 := hlen
      subst hlen
      split at hrt
      · rename_i v
        split at hrt
        · rename_i hty
          cases hrt
          exact W.lret C.1 C.2.1 (C.2.2.2.2.2.1.trans hty) (fun t ht hW => ⟨rfl, by rw [ht]; exact hR, hS.F ht⟩) hS.2.2 hd C.2.2.2.2.2.2.1
        · cases hrt
      · cases hrt
    · rename_i hi
      have hi : i = .return_ := hi
      subst hi
      have hlen : len = 1 := hlen
      subst hlen
      split at hrt
      · split at hrt
        · rename_i hty
          cases hrt
          exact W.vret C.1 C.2.1 (C.2.2.2.2.2.1.trans hty) (fun t ht hW => ⟨rfl, by rw [ht]; exact hR, hS.F ht⟩) hS.2.2 hd C.2.2.2.2.2.2.1
        · cases hrt
      · cases hrt
    · cases hrt
end
section
theorem ab_good (M : ab_M) (h : ab_mo M) : GoodIn ab_tb (ab_ws M) := fun w hw => by
  rcases List.mem_cons.mp hw with rfl | hw
  · exact ab_tb_good _ h.1
  · exact ab_tb_good _ hw
theorem ab_oi_code : Cond.code Lib.objectInit ⟨#[0xb1]⟩ 1 none ∈ ab_tb ∧ Cond.instanceMethod Lib.objectInit ∈ ab_tb := ⟨ab_tb_of (i := 126) (by decide +kernel) rfl, ab_tb_of (i := 125) (by decide +kernel) rfl⟩
set_option maxHeartbeats 4000000 in
theorem ab_snd {G : Nat → Option ab_M} (hG : ∀ k M, G k = some M → ab_ok G M) (l : Launch) : ∀ n : Nat, ab_Snd G l n := by
  intro n
  induction n with
  | zero => intro p e R s m args below meth c Q M b z D dA L xs d pc lv st h r hF H locs ls cells slots c0 s0 C hM hx; cases hx
  | succ n ih =>
    intro p e R s m args below meth c Q M b z D dA L xs d pc lv st h r hF H locs ls cells slots c0 s0 C hM hx hd1 hd2 hR hS hl hc hq hcF hqF kr
    unfold ab_ex at hx
    split at hx
    · cases hx
    · rename_i it hit
      have ok := hM pc it hit
      split at hx
      · -- a plain step
        rename_i hk0
        split at hx
        · cases hx
        · rename_i s' hs
          obtain ⟨pc', lv', st', h'⟩ := s'
          have mono := ab_ex_mono n hx
          exact ab_sp_ok C ok (fun q => by rw [hk0] at q; cases q) hs hR hS hl hc hq (Nat.le_trans mono.1 hcF) (Nat.le_trans mono.2 hqF) (fun H locs ls cells slots hR hS hl hc hq => ih p e R s m args below meth c Q M b z D dA L xs d pc' lv' st' h' r hF H locs ls cells slots c0 s0 C hM hx hd1 hd2 hR hS hl hc hq hcF hqF kr)
      · -- a return
        exact kr H locs ls cells slots pc it st h hR hS hc hq ok hx
      · -- a call
        rename_i hkd
        split at hx
        · cases hx
        · rename_i d'
          split at hx
          · cases hx
          · rename_i q hcal
            obtain ⟨M', A, rest⟩ := q
            split at hx
            · cases hx
            · rename_i rr hrun
              obtain ⟨r', h'⟩ := rr
              obtain ⟨hGM, hsl, hcat, As, hAs, hcase⟩ := ab_cal_of hcal
              have okM := hG _ _ hGM
              have mono1 := ab_ex_mono n hrun
              have mono2 := ab_ex_mono n hx
              have hmet := ab_met (b := b) (z := z) (D := D) (dA := dA) (L := L) (xs := xs) ih okM hrun hsl
              have hgood := ab_good M' okM.1
              have hts := C.2.2.2.2.1
              have hX := C.2.2.2.2.2.2.2.2
              have hmax := okM.1.2.2.2.2.2.1
              have hroom : (ab_rm d' h h').frames + 1 ≤ R.frames ∧ 8 + (M'.2.2.1 + 11) + (ab_rm d' h h').locals ≤ R.locals := by
                refine ⟨hd1, ?_⟩
                show 8 + (M'.2.2.1 + 11) + 60 * d' ≤ R.locals
                omega
              have hmc : cells + (h'.1 - h.1) ≤ R.cells ∧ slots + (h'.2.1 - h.2.1) ≤ R.slots := by
                have a1 : h.1 ≤ h'.1 := mono1.1
                have a2 : h'.1 ≤ hF.1 := mono2.1
                have a3 : h.2.1 ≤ h'.2.1 := mono1.2
                have a4 : h'.2.1 ≤ hF.2.1 := mono2.2
                omega
              have hgo : ∀ (H1 : Heap) (locs1 : List Loc), ab_R b z D dA L xs h' H1 → va_S (ab_A z) s.heap H1 locs1 → W p l e R s m args below meth c H1 locs1 (cells + (h'.1 - h.1)) (slots + (h'.2.1 - h.2.1)) Q (F0 m (pc + 3) ls ((r'.map (ab_v b z)).toList ++ rest.map (ab_v b z))) := by
                intro H1 locs1 hR1 hS1
                have hst : (r'.map (ab_v b z)).toList ++ rest.map (ab_v b z) = (r'.toList ++ rest).map (ab_v b z) := by
                  rw [List.map_append]
                  cases r' <;> rfl
                rw [hst]
                have a1 : h.1 ≤ h'.1 := mono1.1
                have a3 : h.2.1 ≤ h'.2.1 := mono1.2
                exact ih p e R s m args below meth c Q M b z D dA L xs (d' + 1) (pc + 3) lv (r'.toList ++ rest) h' r hF H1 locs1 ls _ _ c0 s0 C hM hx hd1 hd2 hR1 hS1 hl (by omega) (by omega) hcF hqF kr
              have hcat2 : ((rest.map (ab_v b z)).map fun v => v.category).sum ≤ 8 := by rw [ab_cat_map]; exact hcat
              have hpre : ∀ U : State, U.heap = H → s.WarmedH U.vm → va_Pc (A.map (ab_v b z)) (ab_B b z D dA L xs h) (A.map (ab_v b z)).toArray U := fun U hU hW => ⟨rfl, hX.to hS hU hW, by rw [hU]; exact hR⟩
              have hblind := ab_blind (A.map (ab_v b z)) b z D dA L xs h
              obtain ⟨i, len, r0, r1, r2, cst, ix⟩ := it
              obtain ⟨hd, hlen, hw⟩ := ok
              have hn : (As.map (ab_v b z)).length = r2 := by rw [List.length_map]; exact hAs
              rcases hcase with ⟨h13, hkind, hA, hst⟩ | ⟨h0, hkind, a, fs, hA, hst, hrd⟩ | ⟨h24, hkind, a, hA, hst⟩ | ⟨h9, hkind, k, hk, hA, hst⟩
              · -- static
                subst hA
                have hstk : st.map (ab_v b z) = (A.map (ab_v b z)).reverse ++ rest.map (ab_v b z) := by rw [hst, List.map_append, List.map_reverse]
                have hstatic := hts _ (okM.1.2.2.2.2.2.2.2.1 hkind)
                cases i with
                | invokestatic idx =>
                  have hlen : len = 3 := hlen
                  subst hlen
                  have hw : (r0 = 8 ∧ Cond.methodLink M.1.cls idx arraycopyName ∈ ab_tb) ∨ (r0 = 1 ∧ ∀ M', G r1 = some M' → Cond.methodLink M.1.cls idx M'.1 ∈ ab_tb ∧ (parseMethodDescriptor M'.1.desc).map (fun d => d.parameters.length) = some r2) ∨ (r0 = 3 ∧ ∀ M', G r1 = some M' → Cond.methodLinkNest M.1.cls idx M'.1 RX9 ∈ lw_tbl ∧ (parseMethodDescriptor M'.1.desc).map (fun d => d.parameters.length) = some r2) := hw
                  rcases hw with ⟨h8, -⟩ | ⟨-, hw⟩ | ⟨-, hw⟩
                  · have h13 : r0 = 1 ∨ r0 = 3 := h13
                    omega
                  · obtain ⟨hlink, hdesc⟩ := hw M' hGM
                    have cw : CallB R s args M.1.cls idx M'.1 M'.2.1 M'.2.2.1 M'.2.2.2.1 (ab_ws M') (ab_rm d' h h') (h'.1 - h.1) (h'.2.1 - h.2.1) r2 := callB_of r2 hts hgood rfl rfl rfl (hts _ okM.1.2.1) (hts _ hlink) ⟨okM.1.2.2.1, okM.1.2.2.2.1, hdesc⟩ hroom
                    refine ab_call (va_runS (As := A.map (ab_v b z)) (rest := rest.map (ab_v b z)) (C.1 |> fun q => ⟨q, C.2.1, C.2.2.1, C.2.2.2.1, hts⟩) hmet ⟨cw, hstatic⟩ ⟨hblind, hpre⟩ rfl hn hl.1 hstk (lv_room hcat2) hd hmc) hS hgo
                  · obtain ⟨hlink, hdesc⟩ := hw M' hGM
                    have cw : va_CN R s args M.1.cls idx M'.1 RX9 M'.2.1 M'.2.2.1 M'.2.2.2.1 (ab_ws M') (ab_rm d' h h') (h'.1 - h.1) (h'.2.1 - h.2.1) r2 := va_cnB r2 hts hgood rfl rfl rfl (hX.2.1 _ _ _ _ hlink) (hts _ okM.1.2.1) ⟨okM.1.2.2.1, okM.1.2.2.2.1, hdesc⟩ hroom
                    refine ab_call (va_runSN (As := A.map (ab_v b z)) (rest := rest.map (ab_v b z)) (C.1 |> fun q => ⟨q, C.2.1, C.2.2.1, C.2.2.2.1, hts⟩) hmet ⟨cw, hstatic, trivial⟩ ⟨hblind, hpre⟩ rfl hn hl.1 hstk (lv_room hcat2) hd hmc) hS hgo
                | invokevirtual idx =>
                  have hw0 : r0 = 0 ∨ r0 = 9 := hw.1
                  have h13 : r0 = 1 ∨ r0 = 3 := h13
                  omega
                | invokespecial idx =>
                  have h13 : r0 = 1 ∨ r0 = 3 := h13
                  rcases hw with ⟨hw, -⟩ | ⟨hw, -⟩ | ⟨hw, -⟩
                  · have hw : r0 = 5 := hw
                    omega
                  · have hw : r0 = 2 := hw
                    omega
                  · have hw : r0 = 4 := hw
                    omega
                | _ => cases hkd
              · -- virtual
                subst hA
                have hstk : st.map (ab_v b z) = (As.map (ab_v b z)).reverse ++ .ref (ab_ad b z a) :: rest.map (ab_v b z) := by rw [hst, List.map_append, List.map_reverse]; rfl
                obtain ⟨hinst, hsel, T, N, hcl⟩ := okM.1.2.2.2.2.2.2.1 hkind
                obtain ⟨ha, hx2⟩ := ab_rd_of hrd
                have hpos := hR.pos hx2
                have hat := hR.2.2.2 a hpos ha
                rw [hx2] at hat
                have hrecv := va_recv (q0 := 0) (hK := hX.1) (ab_one hat) hcl rfl
                cases i with
                | invokevirtual idx =>
                  have hlen : len = 3 := hlen
                  subst hlen
                  obtain ⟨hlink, hdesc⟩ := hw.2 M' hGM
                  have cw : CallB R s args M.1.cls idx M'.1 M'.2.1 M'.2.2.1 M'.2.2.2.1 (ab_ws M') (ab_rm d' h h') (h'.1 - h.1) (h'.2.1 - h.2.1) r2 := callB_of r2 hts hgood rfl rfl rfl (hts _ okM.1.2.1) (hts _ hlink) ⟨okM.1.2.2.1, okM.1.2.2.2.1, hdesc⟩ hroom
                  refine ab_call (va_runV (As := As.map (ab_v b z)) (rest := rest.map (ab_v b z)) (C.1 |> fun q => ⟨q, C.2.1, C.2.2.1, C.2.2.2.1, hts⟩) hmet ⟨cw, hts _ hinst, hts _ hsel⟩ ⟨hblind, hrecv, hpre⟩ rfl hn hl.1 hstk (lv_room hcat2) hd hmc) hS hgo
                | invokestatic idx =>
                  have h0 : r0 = 0 := h0
                  rcases hw with ⟨hw, -⟩ | ⟨hw, -⟩ | ⟨hw, -⟩
                  · have hw : r0 = 8 := hw
                    omega
                  · have hw : r0 = 1 := hw
                    omega
                  · have hw : r0 = 3 := hw
                    omega
                | invokespecial idx =>
                  have h0 : r0 = 0 := h0
                  rcases hw with ⟨hw, -⟩ | ⟨hw, -⟩ | ⟨hw, -⟩
                  · have hw : r0 = 5 := hw
                    omega
                  · have hw : r0 = 2 := hw
                    omega
                  · have hw : r0 = 4 := hw
                    omega
                | _ => cases hkd
              · -- a constructor
                subst hA
                have hstk : st.map (ab_v b z) = (As.map (ab_v b z)).reverse ++ .ref (ab_ad b z a) :: rest.map (ab_v b z) := by rw [hst, List.map_append, List.map_reverse]; rfl
                obtain ⟨hini, hinst, hret⟩ := okM.1.2.2.2.2.2.2.2.2.1 hkind
                cases i with
                | invokespecial idx =>
                  have hlen : len = 3 := hlen
                  subst hlen
                  rcases hw with ⟨hw5, -⟩ | ⟨-, hw⟩ | ⟨-, hw⟩
                  · have hw5 : r0 = 5 := hw5
                    subst hw5
                    cases hkd
                  · obtain ⟨hlink, hdesc⟩ := hw M' hGM
                    have cw : CallB R s args M.1.cls idx M'.1 M'.2.1 M'.2.2.1 none (ab_ws M') (ab_rm d' h h') (h'.1 - h.1) (h'.2.1 - h.2.1) r2 := callB_of r2 hts hgood (by rw [← hret]; rfl) rfl rfl (hts _ okM.1.2.1) (hts _ hlink) ⟨okM.1.2.2.1, okM.1.2.2.2.1, hdesc⟩ hroom
                    refine ab_call (va_runI (As := As.map (ab_v b z)) (rest := rest.map (ab_v b z)) (C.1 |> fun q => ⟨q, C.2.1, C.2.2.1, C.2.2.2.1, hts⟩) hmet ⟨cw, hini, hts _ hinst⟩ ⟨hblind, hpre⟩ rfl hn hl.1 hstk (lv_room hcat2) hd hmc) hS hgo
                  · obtain ⟨hlink, hdesc⟩ := hw M' hGM
                    have cw : va_CN R s args M.1.cls idx M'.1 RX9 M'.2.1 M'.2.2.1 none (ab_ws M') (ab_rm d' h h') (h'.1 - h.1) (h'.2.1 - h.2.1) r2 := va_cnB r2 hts hgood (by rw [← hret]; rfl) rfl rfl (hX.2.1 _ _ _ _ hlink) (hts _ okM.1.2.1) ⟨okM.1.2.2.1, okM.1.2.2.2.1, hdesc⟩ hroom
                    refine ab_call (va_runIN (As := As.map (ab_v b z)) (rest := rest.map (ab_v b z)) (C.1 |> fun q => ⟨q, C.2.1, C.2.2.1, C.2.2.2.1, hts⟩) hmet ⟨cw, hini, hts _ hinst⟩ ⟨hblind, hpre⟩ rfl hn hl.1 hstk (lv_room hcat2) hd hmc) hS hgo
                | invokevirtual idx =>
                  have hw0 : r0 = 0 ∨ r0 = 9 := hw.1
                  have h24 : r0 = 2 ∨ r0 = 4 := h24
                  omega
                | invokestatic idx =>
                  have h24 : r0 = 2 ∨ r0 = 4 := h24
                  rcases hw with ⟨hw, -⟩ | ⟨hw, -⟩ | ⟨hw, -⟩
                  · have hw : r0 = 8 := hw
                    omega
                  · have hw : r0 = 1 := hw
                    omega
                  · have hw : r0 = 3 := hw
                    omega
                | _ => cases hkd
              · -- a text's method
                subst hA
                obtain ⟨hinst, hsel, hcls⟩ := okM.1.2.2.2.2.2.2.2.2.2 hkind
                obtain ⟨j, rfl⟩ : ∃ j, k = j + 1 := ⟨k - 1, by omega⟩
                obtain ⟨-, -, -, -, -, -, -, -, -, hxt⟩ := id hX
                obtain ⟨ax, vx, hax, -, -, hox, -⟩ := hxt j (by omega)
                have e0 : ab_v b z (.retAddr (j + 1)) = Value.ref ax := by
                  show va_rf (b.2 (j + 1)) = _
                  rw [hax]
                  rfl
                have hA2 : (Value.retAddr (j + 1) :: As).map (ab_v b z) = .ref ax :: As.map (ab_v b z) := by
                  show ab_v b z (.retAddr (j + 1)) :: _ = _
                  rw [e0]
                have hstk : st.map (ab_v b z) = (As.map (ab_v b z)).reverse ++ .ref ax :: rest.map (ab_v b z) := by
                  rw [hst, List.map_append, List.map_reverse]
                  show _ ++ ab_v b z (.retAddr (j + 1)) :: _ = _
                  rw [e0]
                have hrecv : ∃ cellB : Cell, H[ax]? = some cellB ∧ cellB.vm.isStatics = false ∧ s.vm.findClass M'.1.cls = some cellB.cls := by
                  obtain ⟨cell, g1, g2, g3, -⟩ := hox.kept hS.2.1
                  exact ⟨cell, g1, g2, by rw [hcls]; exact g3⟩
                rw [hA2] at hmet hpre hblind
                cases i with
                | invokevirtual idx =>
                  have hlen : len = 3 := hlen
                  subst hlen
                  obtain ⟨hlink, hdesc⟩ := hw.2 M' hGM
                  have cw : CallB R s args M.1.cls idx M'.1 M'.2.1 M'.2.2.1 M'.2.2.2.1 (ab_ws M') (ab_rm d' h h') (h'.1 - h.1) (h'.2.1 - h.2.1) r2 := callB_of r2 hts hgood rfl rfl rfl (hts _ okM.1.2.1) (hts _ hlink) ⟨okM.1.2.2.1, okM.1.2.2.2.1, hdesc⟩ hroom
                  refine ab_call (va_runV (As := As.map (ab_v b z)) (rest := rest.map (ab_v b z)) (C.1 |> fun q => ⟨q, C.2.1, C.2.2.1, C.2.2.2.1, hts⟩) hmet ⟨cw, hts _ hinst, hts _ hsel⟩ ⟨hblind, hrecv, hpre⟩ rfl hn hl.1 hstk (lv_room hcat2) hd hmc) hS hgo
                | invokestatic idx =>
                  have h9 : r0 = 9 := h9
                  rcases hw with ⟨hw, -⟩ | ⟨hw, -⟩ | ⟨hw, -⟩
                  · have hw : r0 = 8 := hw
                    omega
                  · have hw : r0 = 1 := hw
                    omega
                  · have hw : r0 = 3 := hw
                    omega
                | invokespecial idx =>
                  have h9 : r0 = 9 := h9
                  rcases hw with ⟨hw, -⟩ | ⟨hw, -⟩ | ⟨hw, -⟩
                  · have hw : r0 = 5 := hw
                    omega
                  · have hw : r0 = 2 := hw
                    omega
                  · have hw : r0 = 4 := hw
                    omega
                | _ => cases hkd
      · -- System.arraycopy
        rename_i hk4
        split at hx
        · cases hx
        · rename_i d'
          split at hx
          · cases hx
          · rename_i s' hs
            obtain ⟨pc', lv', st', h'⟩ := s'
            have mono := ab_ex_mono n hx
            exact ab_sp_ok C ok (fun _ => ⟨by omega, by omega⟩) hs hR hS hl hc hq (Nat.le_trans mono.1 hcF) (Nat.le_trans mono.2 hqF) (fun H locs ls cells slots hR hS hl hc hq => ih p e R s m args below meth c Q M b z D dA L xs (d' + 1) pc' lv' st' h' r hF H locs ls cells slots c0 s0 C hM hx hd1 hd2 hR hS hl hc hq hcF hqF kr)
      · -- Object.<init>
        rename_i hk0 hk1 hk2 hk4
        split at hx
        · cases hx
        · rename_i d'
          split at hx
          · cases hx
          · rename_i r0' hoi
            obtain ⟨i, len, r0, r1, r2, cst, ix⟩ := it
            obtain ⟨hd, hlen, hw⟩ := ok
            unfold ab_oi at hoi
            split at hoi
            · rename_i a rst
              split at hoi
              · rename_i hcat
                cases hoi
                have hw5 : ∃ idx, i = .invokespecial idx ∧ r0 = 5 := by
                  cases i with
                  | invokespecial idx =>
                    refine ⟨idx, rfl, ?_⟩
                    by_cases h5 : r0 = 5
                    · exact h5
                    · exact absurd (show ab_kd (.invokespecial idx, len, r0, r1, r2, cst, ix) = 2 from if_neg h5) (fun q => hk2 q)
                  | ireturn => exact absurd rfl hk1
                  | lreturn => exact absurd rfl hk1
                  | return_ => exact absurd rfl hk1
                  | invokevirtual idx => exact absurd rfl hk2
                  | invokestatic idx =>
                    by_cases h8 : r0 = 8
                    · exact absurd (show ab_kd (.invokestatic idx, len, r0, r1, r2, cst, ix) = 4 from if_pos h8) (fun q => hk4 q)
                    · exact absurd (show ab_kd (.invokestatic idx, len, r0, r1, r2, cst, ix) = 2 from if_neg h8) (fun q => hk2 q)
                  | _ => exact absurd rfl hk0
                obtain ⟨idx, rfl, h5⟩ := hw5
                subst h5
                have hlen : len = 3 := hlen
                subst hlen
                have hlink : Cond.methodLink M.1.cls idx Lib.objectInit ∈ ab_tb := by
                  rcases hw with ⟨-, hw⟩ | ⟨hw, -⟩ | ⟨hw, -⟩
                  · exact hw
                  · exact absurd (show (5 : Nat) = 2 from hw) (by decide)
                  · exact absurd (show (5 : Nat) = 4 from hw) (by decide)
                have hts := C.2.2.2.2.1
                refine W.objInit C.1 C.2.1 C.2.2.2.1 (hts _ hlink) (hts _ ab_oi_code.2) (hts _ ab_oi_code.1) rfl (by rw [C.2.2.1]; exact hl.1) (a := ab_ad b z a) (rest := r0'.map (ab_v b z)) rfl hd (by omega) ?_ ?_
                · have h8 : ((r0'.map (ab_v b z)).map fun v => v.category).sum ≤ 8 := by rw [ab_cat_map]; exact hcat
                  have h9 := lv_room (m := m) (pc := pc) (ls := ls) (rest := (Value.ref a :: r0').map (ab_v b z)) h8
                  omega
                · exact ih p e R s m args below meth c Q M b z D dA L xs (d' + 1) (pc + 3) lv r0' h r hF H locs ls cells slots c0 s0 C hM hx hd1 hd2 hR hS hl hc hq hcF hqF kr
              · cases hoi
            · cases hoi
end
